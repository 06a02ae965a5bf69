/-! the picture of a field -/
def fp_in (a b : Nat) : Bool := (Nat.beq a 0 && Nat.blt b 5) || (Nat.blt 0 a && (Nat.blt a 7 && Nat.blt b 4))
theorem fp_in_0 {b : Nat} (h : b < 5) : fp_in 0 b = true := by
  unfold fp_in
  rw [show Nat.blt b 5 = true from Nat.ble_eq.mpr h]
  rfl
theorem fp_in_a {a b : Nat} (h0 : 0 < a) (h1 : a < 7) (h : b < 4) : fp_in a b = true := by
  unfold fp_in
  rw [show Nat.blt b 4 = true from Nat.ble_eq.mpr h, show Nat.blt 0 a = true from Nat.ble_eq.mpr h0, show Nat.blt a 7 = true from Nat.ble_eq.mpr h1]
  exact Bool.or_true _
theorem fp_in_c {a b : Nat} (h : fp_in a b = true) : (a = 0 ∧ b < 5) ∨ (0 < a ∧ a < 7 ∧ b < 4) := by
  unfold fp_in at h
  rcases Bool.or_eq_true_iff.mp h with q | q
  · obtain ⟨q1, q2⟩ := (Bool.and_eq_true _ _).mp q
    exact Or.inl ⟨Nat.eq_of_beq_eq_true q1, Nat.ble_eq.mp q2⟩
  · obtain ⟨q1, q2⟩ := (Bool.and_eq_true _ _).mp q
    obtain ⟨q3, q4⟩ := (Bool.and_eq_true _ _).mp q2
    exact Or.inr ⟨Nat.ble_eq.mp q1, Nat.ble_eq.mp q3, Nat.ble_eq.mp q4⟩
/-- the part that is the field's -/
def fp_ct (F : am_N) : am_N := fun a b => bif fp_in a b then F a b else 0
theorem fp_ct_i {F : am_N} {a b : Nat} (h : fp_in a b = true) : fp_ct F a b = F a b := by
  unfold fp_ct; rw [h]; rfl
theorem fp_ct_e {F G : am_N} (h0 : ∀ b : Nat, b < 5 → F 0 b = G 0 b) (h1 : ∀ a b : Nat, 0 < a → a < 7 → b < 4 → F a b = G a b) : fp_ct F = fp_ct G := by
  funext a b
  cases h : fp_in a b with
  | false => unfold fp_ct; rw [h]; rfl
  | true =>
    rw [fp_ct_i h, fp_ct_i h]
    rcases fp_in_c h with ⟨rfl, q⟩ | ⟨q1, q2, q3⟩
    · exact h0 b q
    · exact h1 a b q1 q2 q3
theorem fp_ct_n {F G : am_N} (h : fp_ct F = fp_ct G) : (∀ b : Nat, b < 5 → F 0 b = G 0 b) ∧ ∀ a b : Nat, 0 < a → a < 7 → b < 4 → F a b = G a b := by
  refine ⟨fun b hb => ?_, fun a b h0 h1 h2 => ?_⟩
  · have q := congrFun (congrFun h 0) b
    rwa [fp_ct_i (fp_in_0 hb), fp_ct_i (fp_in_0 hb)] at q
  · have q := congrFun (congrFun h a) b
    rwa [fp_ct_i (fp_in_a h0 h1 h2), fp_ct_i (fp_in_a h0 h1 h2)] at q
/-- the class's field at cell c -/
def fv (μ : am_N) (c : Nat) : am_N := fp_ct (fun a b => μ (c + a) b)
def fp_mr (μ : am_N) : am_N := fun a b => match a with
  | 0 => μ 83 (10 + b)
  | a + 1 => μ (85 + a) b
/-- the model's -/
def mv (μ : am_N) : am_N := fp_ct (fp_mr μ)
def fp_kr (μ : am_N) (o : Nat) : am_N := fun a b => match a with
  | 0 => μ 98 (o + 40 + b)
  | a + 1 => μ 98 (o + 4 * a + b)
/-- the model's that is kept from place o on -/
def kv (μ : am_N) (o : Nat) : am_N := fp_ct (fp_kr μ o)
theorem fv_0 {μ : am_N} {c b : Nat} (h : b < 5) : fv μ c 0 b = μ c b := fp_ct_i (fp_in_0 h)
theorem fv_a {μ : am_N} {c a b : Nat} (h0 : 0 < a) (h1 : a < 7) (h : b < 4) : fv μ c a b = μ (c + a) b := fp_ct_i (fp_in_a h0 h1 h)
theorem mv_0 {μ : am_N} {b : Nat} (h : b < 5) : mv μ 0 b = μ 83 (10 + b) := fp_ct_i (fp_in_0 h)
theorem mv_a {μ : am_N} {a b : Nat} (h1 : a < 6) (h : b < 4) : mv μ (a + 1) b = μ (85 + a) b := fp_ct_i (fp_in_a (by omega) (by omega) h)
theorem mv_k {μ : am_N} : mv μ 0 1 = μ 83 11 := rfl
theorem mv_r {μ : am_N} : mv μ 0 2 = μ 83 12 := rfl
theorem mv_y {μ : am_N} : mv μ 0 3 = μ 83 13 := rfl
theorem mv_n {μ : am_N} : mv μ 0 4 = μ 83 14 := rfl
theorem mv_5 {μ : am_N} {b : Nat} (h : b < 4) : mv μ 5 b = μ 89 b := mv_a (a := 4) (by decide) h
theorem mv_6 {μ : am_N} {b : Nat} (h : b < 4) : mv μ 6 b = μ 90 b := mv_a (a := 5) (by decide) h
/-- numbers as they must be, WEEK up to W -/
def fp_fw (W : Int) (F : am_N) : Prop := (20 ≤ F 0 0 ∧ F 0 0 ≤ 200) ∧ (0 ≤ F 0 1 ∧ F 0 1 ≤ W) ∧ (0 ≤ F 0 2 ∧ F 0 2 ≤ 4) ∧ (1 ≤ F 0 3 ∧ F 0 3 ≤ 9) ∧ (0 ≤ F 0 4 ∧ F 0 4 ≤ 4) ∧ (∀ i : Nat, i < 4 → 0 ≤ F 5 i ∧ F 5 i ≤ 99) ∧ ∀ i : Nat, (i : Int) < F 0 4 → (0 ≤ F 1 i ∧ F 1 i ≤ 5) ∧ (0 ≤ F 2 i ∧ F 2 i ≤ 9) ∧ (5 ≤ F 3 i ∧ F 3 i ≤ 40) ∧ (0 ≤ F 4 i ∧ F 4 i ≤ 20)
theorem fw_mono {W V : Int} {F : am_N} (h : fp_fw W F) (hv : W ≤ V) : fp_fw V F := ⟨h.1, ⟨h.2.1.1, Int.le_trans h.2.1.2 hv⟩, h.2.2⟩
theorem fw_C {W : Int} {μ : am_N} {c : Nat} (h : fp_fw W (fv μ c)) (hW : W ≤ 2000) : am_fC μ c ∧ (0 ≤ μ c 2 ∧ μ c 2 ≤ 4) ∧ (1 ≤ μ c 3 ∧ μ c 3 ≤ 9) ∧ (∀ b : Nat, b < 4 → 0 ≤ μ (c + 5) b ∧ μ (c + 5) b ≤ 99) ∧ (20 ≤ μ c 0 ∧ μ c 0 ≤ 200) ∧ (0 ≤ μ c 1 ∧ μ c 1 ≤ W) ∧ ∀ i : Nat, (i : Int) < μ c 4 → (0 ≤ μ (c + 1) i ∧ μ (c + 1) i ≤ 5) ∧ (0 ≤ μ (c + 2) i ∧ μ (c + 2) i ≤ 9) ∧ (5 ≤ μ (c + 3) i ∧ μ (c + 3) i ≤ 40) ∧ (0 ≤ μ (c + 4) i ∧ μ (c + 4) i ≤ 20) := by
  obtain ⟨h0, h1, h2, h3, h4, h5, h6⟩ := h
  rw [fv_0 (by decide)] at h0 h1 h2 h3 h4
  have h5' : ∀ b : Nat, b < 4 → 0 ≤ μ (c + 5) b ∧ μ (c + 5) b ≤ 99 := fun b hb => by
    have q := h5 b hb
    rwa [fv_a (by decide) (by decide) hb] at q
  have h6' : ∀ i : Nat, (i : Int) < μ c 4 → (0 ≤ μ (c + 1) i ∧ μ (c + 1) i ≤ 5) ∧ (0 ≤ μ (c + 2) i ∧ μ (c + 2) i ≤ 9) ∧ (5 ≤ μ (c + 3) i ∧ μ (c + 3) i ≤ 40) ∧ (0 ≤ μ (c + 4) i ∧ μ (c + 4) i ≤ 20) := fun i hi => by
    have q := h6 i (by rw [fv_0 (by decide)]; exact hi)
    have hb : i < 4 := by omega
    rwa [fv_a (by decide) (by decide) hb, fv_a (by decide) (by decide) hb, fv_a (by decide) (by decide) hb, fv_a (by decide) (by decide) hb] at q
  refine ⟨⟨h4, ⟨by omega, by omega⟩, fun i hi => ?_⟩, h2, h3, h5', h0, h1, h6'⟩
  have q := h6' i hi
  exact ⟨⟨q.2.2.1, q.2.1, q.1, by omega, by omega⟩, h5' i (by omega)⟩
theorem fw_M {W : Int} {μ : am_N} (h : fp_fw W (mv μ)) (hW : W ≤ 2000) : am_fM μ ∧ (0 ≤ μ 83 12 ∧ μ 83 12 ≤ 4) ∧ (1 ≤ μ 83 13 ∧ μ 83 13 ≤ 9) ∧ (∀ b : Nat, b < 4 → 0 ≤ μ 89 b ∧ μ 89 b ≤ 99) ∧ (20 ≤ μ 83 10 ∧ μ 83 10 ≤ 200) ∧ (0 ≤ μ 83 11 ∧ μ 83 11 ≤ W) ∧ ∀ i : Nat, (i : Int) < μ 83 14 → (0 ≤ μ 85 i ∧ μ 85 i ≤ 5) ∧ (0 ≤ μ 86 i ∧ μ 86 i ≤ 9) ∧ (5 ≤ μ 87 i ∧ μ 87 i ≤ 40) ∧ (0 ≤ μ 88 i ∧ μ 88 i ≤ 20) := by
  obtain ⟨h0, h1, h2, h3, h4, h5, h6⟩ := h
  rw [mv_0 (by decide)] at h0 h1 h2 h3 h4
  have h0 : 20 ≤ μ 83 10 ∧ μ 83 10 ≤ 200 := h0
  have h1 : 0 ≤ μ 83 11 ∧ μ 83 11 ≤ W := h1
  have h2 : 0 ≤ μ 83 12 ∧ μ 83 12 ≤ 4 := h2
  have h3 : 1 ≤ μ 83 13 ∧ μ 83 13 ≤ 9 := h3
  have h4 : 0 ≤ μ 83 14 ∧ μ 83 14 ≤ 4 := h4
  have h5' : ∀ b : Nat, b < 4 → 0 ≤ μ 89 b ∧ μ 89 b ≤ 99 := fun b hb => by
    have q := h5 b hb
    rwa [mv_a (by decide) hb] at q
  have h6' : ∀ i : Nat, (i : Int) < μ 83 14 → (0 ≤ μ 85 i ∧ μ 85 i ≤ 5) ∧ (0 ≤ μ 86 i ∧ μ 86 i ≤ 9) ∧ (5 ≤ μ 87 i ∧ μ 87 i ≤ 40) ∧ (0 ≤ μ 88 i ∧ μ 88 i ≤ 20) := fun i hi => by
    have q := h6 i (by rw [mv_0 (by decide)]; exact hi)
    have hb : i < 4 := by omega
    rwa [mv_a (by decide) hb, mv_a (by decide) hb, mv_a (by decide) hb, mv_a (by decide) hb] at q
  refine ⟨⟨h4, ⟨by omega, by omega⟩, fun i hi => ?_⟩, h2, h3, h5', h0, h1, h6'⟩
  have q := h6' i hi
  exact ⟨⟨q.2.2.1, q.2.1, q.1, by omega, by omega⟩, h5' i (by omega)⟩
/-- TIME of a picture's -/
abbrev fp_tf (F : am_N) : Nat → Int := am_TC F 0
theorem fv_T {μ : am_N} {c i : Nat} (h : i < 4) : am_TC μ c i = fp_tf (fv μ c) i := by
  unfold fp_tf am_TC
  rw [fv_0 (by decide), fv_0 (by decide), fv_a (by decide) (by decide) h, fv_a (by decide) (by decide) h, fv_a (by decide) (by decide) h, fv_a (by decide) (by decide) h]
theorem mv_T {μ : am_N} {i : Nat} (h : i < 4) : am_TM μ i = fp_tf (mv μ) i := by
  unfold fp_tf am_TC am_TM
  rw [mv_0 (by decide), mv_0 (by decide), mv_a (by decide) h, mv_a (by decide) h, mv_a (by decide) h, mv_a (by decide) h]
/-- who stands at place p by the times t of n -/
def fp_od (t : Nat → Int) (n p : Int) : Int := if am_cnt t 0 n.toNat = p then 0 else if am_cnt t 1 n.toNat = p then 1 else if am_cnt t 2 n.toNat = p then 2 else 3
theorem fp_od_b (t : Nat → Int) (n p : Int) : 0 ≤ fp_od t n p ∧ fp_od t n p ≤ 3 := by
  unfold fp_od
  repeat' split
  all_goals omega
theorem fp_od_i {t : Nat → Int} {n p : Int} {i : Nat} (hn : n ≤ 4) (hi : (i : Int) < n) (h : am_cnt t i n.toNat = p) : fp_od t n p = i := by
  have ne : ∀ j : Nat, (j : Int) < n → j ≠ i → am_cnt t j n.toNat ≠ p := fun j hj d z => am_cnt_ne t (i := j) (j := i) (m := n.toNat) (by omega) (by omega) d (by rw [z, h])
  unfold fp_od
  rcases (show i = 0 ∨ i = 1 ∨ i = 2 ∨ i = 3 by omega) with rfl | rfl | rfl | rfl
  · rw [if_pos h]; rfl
  · rw [if_neg (ne 0 (by omega) (by decide)), if_pos h]; rfl
  · rw [if_neg (ne 0 (by omega) (by decide)), if_neg (ne 1 (by omega) (by decide)), if_pos h]; rfl
  · rw [if_neg (ne 0 (by omega) (by decide)), if_neg (ne 1 (by omega) (by decide)), if_neg (ne 2 (by omega) (by decide))]; rfl
theorem fp_od_n {t : Nat → Int} {n p : Int} (hn : n ≤ 4) (h0 : 0 ≤ p) (h1 : p < n) : fp_od t n p < n := by
  obtain ⟨i, hi, hc⟩ := am_cnt_s t (m := n.toNat) (by omega) p.toNat (by omega)
  rw [fp_od_i (t := t) (p := p) (i := i) hn (by omega) (by omega)]
  omega
theorem fp_od_o {μ : am_N} {c : Nat} {t : Nat → Int} {n : Int} (hn : n ≤ 4) (h : am_isord μ c t n) (p : Nat) (hp : (p : Int) < n) : μ c p = fp_od t n p := by
  obtain ⟨i, hi, hc⟩ := am_cnt_s t (m := n.toNat) (by omega) p (by omega)
  have q := h i (by omega)
  rw [hc, show ((p : Int)).toNat = p by omega] at q
  rw [q, fp_od_i (i := i) hn (by omega) hc]
theorem fp_od_t {t u : Nat → Int} {n p : Int} (hn : n ≤ 4) (h : ∀ i : Nat, i < 4 → t i = u i) : fp_od t n p = fp_od u n p := by
  have e : ∀ i : Nat, i < 4 → am_cnt t i n.toNat = am_cnt u i n.toNat := fun i hi => by
    have g : ∀ m : Nat, m ≤ 4 → am_cnt t i m = am_cnt u i m := by
      intro m
      induction m with
      | zero => intro _; rfl
      | succ m ih =>
        intro hm
        simp only [am_cnt]
        rw [ih (by omega), h i hi, h m (by omega)]
    exact g _ (by omega)
  unfold fp_od
  rw [e 0 (by decide), e 1 (by decide), e 2 (by decide)]
/-- the first, the last of a picture's race as a rule -/
def fp_f (F : am_N) : Int := fp_od (fp_tf F) (F 0 4) 0
def fp_g (F : am_N) : Int := fp_od (fp_tf F) (F 0 4) (F 0 4 - 1)
def fp_rr (F : am_N) : am_N := fun a b => if a = 6 then (if (b : Int) = fp_f F then F 6 b + 1 else F 6 b) else if a = 5 then am_mn (F 0 2) (F 0 3) (F 0 4) (fp_f F) (fp_g F) (F 5) b else if a = 0 ∧ b = 1 then F 0 1 + 1 else F a b
/-- they RUN -/
def fp_rn (F : am_N) : am_N := fp_ct (fp_rr F)
theorem am_mn_b {r y n f g : Int} {s : Nat → Int} (h : ∀ b : Nat, b < 4 → 0 ≤ s b ∧ s b ≤ 99) : ∀ b : Nat, b < 4 → 0 ≤ am_mn r y n f g s b ∧ am_mn r y n f g s b ≤ 99 := am_m3_b (am_m2_b (am_m1_b h))
theorem am_mn_c {r y n f g : Int} {s u : Nat → Int} (f0 : 0 ≤ f) (f1 : f ≤ 3) (g0 : 0 ≤ g) (g1 : g ≤ 3) (h : ∀ b : Nat, b < 4 → s b = u b) : ∀ b : Nat, b < 4 → am_mn r y n f g s b = am_mn r y n f g u b := by
  have h1 : ∀ b : Nat, b < 4 → am_m1 r y f s b = am_m1 r y f u b := fun b hb => by
    unfold am_m1
    split
    · unfold am_pt; rw [h f.toNat (by omega), h b hb]
    · exact h b hb
  have h2 : ∀ b : Nat, b < 4 → am_m2 r y g (am_m1 r y f s) b = am_m2 r y g (am_m1 r y f u) b := fun b hb => by
    unfold am_m2
    split
    · unfold am_pt; rw [h1 g.toNat (by omega), h1 b hb]
    · exact h1 b hb
  intro b hb
  unfold am_mn am_m3
  rw [h2 b hb]
theorem fw_rn {W V : Int} {F : am_N} (h : fp_fw W F) (hV : W + 1 ≤ V) : fp_fw V (fp_rn F) := by
  obtain ⟨h0, h1, h2, h3, h4, h5, h6⟩ := h
  have e0 : ∀ b : Nat, b < 5 → b ≠ 1 → fp_rn F 0 b = F 0 b := fun b hb d => by
    unfold fp_rn
    rw [fp_ct_i (fp_in_0 hb)]
    unfold fp_rr
    rw [if_neg (by decide), if_neg (by decide), if_neg (fun z => d z.2)]
  have e1 : fp_rn F 0 1 = F 0 1 + 1 := rfl
  have e : ∀ a b : Nat, 0 < a → a < 5 → b < 4 → fp_rn F a b = F a b := fun a b q1 q2 q3 => by
    unfold fp_rn
    rw [fp_ct_i (fp_in_a q1 (by omega) q3)]
    unfold fp_rr
    rw [if_neg (by omega), if_neg (by omega), if_neg (by omega)]
  have e5 : ∀ b : Nat, b < 4 → fp_rn F 5 b = am_mn (F 0 2) (F 0 3) (F 0 4) (fp_f F) (fp_g F) (F 5) b := fun b hb => by
    unfold fp_rn
    rw [fp_ct_i (fp_in_a (by decide) (by decide) hb)]
    unfold fp_rr
    rw [if_neg (by decide), if_pos rfl]
  unfold fp_fw
  rw [e0 0 (by decide) (by decide), e1, e0 2 (by decide) (by decide), e0 3 (by decide) (by decide), e0 4 (by decide) (by decide)]
  refine ⟨h0, by omega, h2, h3, h4, fun i hi => ?_, fun i hi => ?_⟩
  · rw [e5 i hi]; exact am_mn_b h5 i hi
  · rw [e 1 i (by decide) (by decide) (by omega), e 2 i (by decide) (by decide) (by omega), e 3 i (by decide) (by decide) (by omega), e 4 i (by decide) (by decide) (by omega)]
    exact h6 i hi
theorem fp_f_b (F : am_N) : 0 ≤ fp_f F ∧ fp_f F ≤ 3 := fp_od_b _ _ _
theorem fp_g_b (F : am_N) : 0 ≤ fp_g F ∧ fp_g F ≤ 3 := fp_od_b _ _ _
theorem fv_f {μ : am_N} {c : Nat} (hn : μ c 4 ≤ 4) : fp_od (am_TC μ c) (μ c 4) 0 = fp_f (fv μ c) := fp_od_t hn (fun i hi => fv_T hi)
theorem fv_g {μ : am_N} {c : Nat} (hn : μ c 4 ≤ 4) : fp_od (am_TC μ c) (μ c 4) (μ c 4 - 1) = fp_g (fv μ c) := fp_od_t hn (fun i hi => fv_T hi)
theorem mv_f {μ : am_N} (hn : μ 83 14 ≤ 4) : fp_od (am_TM μ) (μ 83 14) 0 = fp_f (mv μ) := fp_od_t hn (fun i hi => mv_T hi)
theorem mv_g {μ : am_N} (hn : μ 83 14 ≤ 4) : fp_od (am_TM μ) (μ 83 14) (μ 83 14 - 1) = fp_g (mv μ) := fp_od_t hn (fun i hi => mv_T hi)
/-- a class's memory behind a run -/
theorem fv_rn {μ ν : am_N} {c : Nat} (h6 : ∀ b : Nat, b < 4 → μ (c + 6) b = if (b : Int) = fp_f (fv ν c) then ν (c + 6) b + 1 else ν (c + 6) b) (h5 : ∀ b : Nat, b < 4 → μ (c + 5) b = am_mn (ν c 2) (ν c 3) (ν c 4) (fp_f (fv ν c)) (fp_g (fv ν c)) (ν (c + 5)) b) (h1 : μ c 1 = ν c 1 + 1) (h0 : ∀ b : Nat, b ≠ 1 → μ c b = ν c b) (h : ∀ a b : Nat, 0 < a → a < 5 → μ (c + a) b = ν (c + a) b) : fv μ c = fp_rn (fv ν c) := by
  refine fp_ct_e (fun b hb => ?_) (fun a b q1 q2 hb => ?_)
  · unfold fp_rr
    rw [if_neg (by decide), if_neg (by decide)]
    by_cases d : b = 1
    · subst d; exact h1
    · rw [if_neg (fun z => d z.2), fv_0 hb]; exact h0 b d
  · unfold fp_rr
    by_cases d6 : a = 6
    · subst d6
      rw [if_pos rfl, fv_a (by decide) (by decide) hb]
      exact h6 b hb
    · rw [if_neg d6]
      by_cases d5 : a = 5
      · subst d5
        rw [if_pos rfl, h5 b hb]
        exact am_mn_c (fp_f_b _).1 (fp_f_b _).2 (fp_g_b _).1 (fp_g_b _).2 (fun b hb => (fv_a (by decide) (by decide) hb).symm) b hb
      · rw [if_neg d5, if_neg (by omega), fv_a q1 q2 hb]
        exact h a b q1 (by omega)
theorem mv_rn {μ ν : am_N} (h6 : ∀ b : Nat, b < 4 → μ 90 b = if (b : Int) = fp_f (mv ν) then ν 90 b + 1 else ν 90 b) (h5 : ∀ b : Nat, b < 4 → μ 89 b = am_mn (ν 83 12) (ν 83 13) (ν 83 14) (fp_f (mv ν)) (fp_g (mv ν)) (ν 89) b) (h1 : μ 83 11 = ν 83 11 + 1) (h0 : ∀ b : Nat, b ≠ 11 → μ 83 b = ν 83 b) (h : ∀ a b : Nat, 85 ≤ a → a < 89 → μ a b = ν a b) : mv μ = fp_rn (mv ν) := by
  refine fp_ct_e (fun b hb => ?_) (fun a b q1 q2 hb => ?_)
  · unfold fp_rr
    rw [if_neg (by decide), if_neg (by decide)]
    by_cases d : b = 1
    · subst d
      rw [if_pos ⟨rfl, rfl⟩, mv_k]
      exact h1
    · rw [if_neg (fun z => d z.2), mv_0 hb]; exact h0 (10 + b) (by omega)
  · unfold fp_rr
    by_cases d6 : a = 6
    · subst d6
      rw [if_pos rfl, mv_6 hb]
      exact h6 b hb
    · by_cases d5 : a = 5
      · subst d5
        rw [if_neg (by decide), if_pos rfl, mv_r, mv_y, mv_n, am_mn_c (s := mv ν 5) (u := ν 89) (fp_f_b _).1 (fp_f_b _).2 (fp_g_b _).1 (fp_g_b _).2 (fun b hb => mv_5 hb) b hb]
        exact h5 b hb
      · obtain ⟨a, rfl⟩ : ∃ e, a = e + 1 := ⟨a - 1, by omega⟩
        rw [if_neg d6, if_neg d5, if_neg (by omega), mv_a (by omega) hb]
        exact h (85 + a) b (by omega) (by omega)
theorem x_hasT_1 {l : Launch} {ν : am_N} {Q : Option am_V → am_N → Prop} (i : Int) (h0 : 0 ≤ i) (h1 : i < ν 1 4) (hn : ν 1 4 ≤ 4) (k : Q (some (.inl 1)) ν) : am_Does l 1 [.inr (.inr 1), .inl i] ν Q := by
  refine am_Does_of (Nat.le_of_ble_eq_true rfl) (Nat.le_of_ble_eq_true rfl) (Nat.le_of_ble_eq_true rfl) ?_
  have ci : am_c i = i := am_cR (by omega) (by omega)
  have cn : am_c (ν 1 4) = ν 1 4 := am_cR (by omega) (by omega)
  have c0 : am_c 0 = 0 := rfl
  refine am_go (ct := fun _ => false) am_oX0_has 300 ?_
  conv => whnf
  repeat' first
    | (refine (?_ : am_wp _ _ _ _ _ _ _ _ _ _ _ _); conv => whnf)
    | (refine (?_ : am_sw _ _ _ _); conv => whnf)
    | refine And.intro trivial ?_
    | exact trivial
    | exact k
    | refine And.intro (fun h => absurd h (by decide)) (fun _ => ?_)
    | refine And.intro (fun _ => ?_) (fun h => absurd (by decide) h)
    | refine And.intro (fun _ => ?_) (fun _ => ?_)
    | refine And.intro ?_ ?_
  all_goals (first | decide | omega | (exfalso; simp only [ci, cn, c0] at *; omega) | (simp only [ci, cn, c0] at *; omega) | (trace_state; fail))
theorem x_hasT_8 {l : Launch} {ν : am_N} {Q : Option am_V → am_N → Prop} (i : Int) (h0 : 0 ≤ i) (h1 : i < ν 8 4) (hn : ν 8 4 ≤ 4) (k : Q (some (.inl 1)) ν) : am_Does l 1 [.inr (.inr 8), .inl i] ν Q := by
  refine am_Does_of (Nat.le_of_ble_eq_true rfl) (Nat.le_of_ble_eq_true rfl) (Nat.le_of_ble_eq_true rfl) ?_
  have ci : am_c i = i := am_cR (by omega) (by omega)
  have cn : am_c (ν 8 4) = ν 8 4 := am_cR (by omega) (by omega)
  have c0 : am_c 0 = 0 := rfl
  refine am_go (ct := fun _ => false) am_oX0_has 300 ?_
  conv => whnf
  repeat' first
    | (refine (?_ : am_wp _ _ _ _ _ _ _ _ _ _ _ _); conv => whnf)
    | (refine (?_ : am_sw _ _ _ _); conv => whnf)
    | refine And.intro trivial ?_
    | exact trivial
    | exact k
    | refine And.intro (fun h => absurd h (by decide)) (fun _ => ?_)
    | refine And.intro (fun _ => ?_) (fun h => absurd (by decide) h)
    | refine And.intro (fun _ => ?_) (fun _ => ?_)
    | refine And.intro ?_ ?_
  all_goals (first | decide | omega | (exfalso; simp only [ci, cn, c0] at *; omega) | (simp only [ci, cn, c0] at *; omega) | (trace_state; fail))
theorem x_first_29_1 {l : Launch} {ν : am_N} {Q : Option am_V → am_N → Prop} (F : Int) (h : ν 34 0 = F) (hn : 0 < ν 29 0) (hn1 : ν 29 0 ≤ 4) (k : Q (some (.inl F)) ν) : am_Does l 37 [.inr (.inr 29)] ν Q := by
  refine am_Does_of (Nat.le_of_ble_eq_true rfl) (Nat.le_of_ble_eq_true rfl) (Nat.le_of_ble_eq_true rfl) ?_
  have cn : am_c (ν 29 0) = ν 29 0 := am_cR (by omega) (by omega)
  have c0 : am_c 0 = 0 := rfl
  refine am_go (ct := fun _ => false) am_oX2_first 300 ?_
  conv => whnf
  repeat' first
    | (refine (?_ : am_wp _ _ _ _ _ _ _ _ _ _ _ _); conv => whnf)
    | (refine (?_ : am_sw _ _ _ _); conv => whnf)
    | refine And.intro trivial ?_
    | exact trivial
    | refine am_qe k ?_
    | refine And.intro (fun h => absurd h (by decide)) (fun _ => ?_)
    | refine And.intro (fun _ => ?_) (fun h => absurd (by decide) h)
    | refine And.intro (fun _ => ?_) (fun _ => ?_)
    | refine And.intro ?_ ?_
  all_goals (first | decide | omega | exact h | (simp only [cn, c0] at *; omega) | (trace_state; fail))
theorem x_last_29_1 {l : Launch} {ν : am_N} {Q : Option am_V → am_N → Prop} (G : Int) (h : ν 34 (ν 29 0 - 1).toNat = G) (hn : 0 < ν 29 0) (hn1 : ν 29 0 ≤ 4) (k : Q (some (.inl G)) ν) : am_Does l 38 [.inr (.inr 29)] ν Q := by
  refine am_Does_of (Nat.le_of_ble_eq_true rfl) (Nat.le_of_ble_eq_true rfl) (Nat.le_of_ble_eq_true rfl) ?_
  have cn : am_c (ν 29 0) = ν 29 0 := am_cR (by omega) (by omega)
  have c0 : am_c 0 = 0 := rfl
  have c1 : am_c (ν 29 0 - 1) = ν 29 0 - 1 := am_cR (by omega) (by omega)
  refine am_go (ct := fun _ => false) am_oX2_last 300 ?_
  conv => whnf
  repeat' first
    | (refine (?_ : am_wp _ _ _ _ _ _ _ _ _ _ _ _); conv => whnf)
    | (refine (?_ : am_sw _ _ _ _); conv => whnf)
    | refine And.intro trivial ?_
    | exact trivial
    | refine am_qe k ?_
    | refine And.intro (fun h => absurd h (by decide)) (fun _ => ?_)
    | refine And.intro (fun _ => ?_) (fun h => absurd (by decide) h)
    | refine And.intro (fun _ => ?_) (fun _ => ?_)
    | refine And.intro ?_ ?_
  all_goals (first | decide | omega | (rw [c1]; exact h) | (simp only [cn, c0, c1] at *; omega) | (trace_state; fail))
theorem x_behind_29_1 {l : Launch} {ν : am_N} {Q : Option am_V → am_N → Prop} (F G : Int) (hF : ν 34 0 = F) (hG : ν 34 (ν 29 0 - 1).toNat = G) (en : ν 29 0 = ν 1 4) (hF0 : 0 ≤ F) (hF1 : F < ν 1 4) (hG0 : 0 ≤ G) (hG1 : G < ν 1 4) (hn : ν 1 4 ≤ 4) (hr : 0 ≤ ν 1 2 ∧ ν 1 2 ≤ 4) (hy : 1 ≤ ν 1 3 ∧ ν 1 3 ≤ 9) (hs : ∀ b : Nat, b < 4 → 0 ≤ ν 6 b ∧ ν 6 b ≤ 99) (k : ∀ μ' : am_N, (∀ a b, a ≠ 6 → ¬(a = 1 ∧ b = 1) → μ' a b = ν a b) → μ' 6 = am_mn (ν 1 2) (ν 1 3) (ν 1 4) F G (ν 6) → μ' 1 1 = ν 1 1 + 1 → Q none μ') : am_Does l 35 [.inr (.inr 29), .inr (.inr 1)] ν Q := by
  refine am_Does_of (Nat.le_of_ble_eq_true rfl) (Nat.le_of_ble_eq_true rfl) (Nat.le_of_ble_eq_true rfl) ?_
  refine am_go (ct := fun _ => false) am_oX2_behind 300 ?_
  conv => whnf
  repeat' first
    | (refine (?_ : am_wp _ _ _ _ _ _ _ _ _ _ _ _); conv => whnf)
    | (refine (?_ : am_sw _ _ _ _); conv => whnf)
    | refine And.intro trivial ?_
    | exact trivial
    | ((with_reducible refine (?_ : am_Does _ 37 _ _ _)); refine x_first_29_1 F hF ?_ ?_ ?_)
    | ((with_reducible refine (?_ : am_Does _ 38 _ _ _)); refine x_last_29_1 G hG ?_ ?_ ?_)
    | ((with_reducible refine (?_ : am_Does _ 12 _ _ _)); refine x_mend_1 _ _ hF0 hF1 hG0 hG1 hn hr hy hs (fun μ1 f1 s1 => ?_))
    | refine k _ ?_ ?_ ?_
    | refine And.intro (fun h => absurd h (by decide)) (fun _ => ?_)
    | refine And.intro (fun _ => ?_) (fun h => absurd (by decide) h)
    | refine And.intro (fun _ => ?_) (fun _ => ?_)
    | refine And.intro ?_ ?_
  all_goals (first | decide | omega | (intro a b h1 h2; rw [am_uE h2]; exact f1 a b h1) | (rw [am_pt_up]; exact s1) | (funext b; rw [am_upN (by decide), s1]) | (rw [am_upS, if_pos ⟨rfl, rfl⟩, f1 _ _ (by decide)]) | (trace_state; fail))
theorem x_goOn_29_1 {l : Launch} {ν : am_N} {Q : Option am_V → am_N → Prop} (W : Int) (hw : fp_fw W (fv ν 1)) (hW : W ≤ 2000) (hn0 : 1 ≤ ν 1 4) (hp : sx_3 ν 34) (k : ∀ μ' : am_N, (∀ a b, a ≠ 6 → a ≠ 7 → ¬(a = 1 ∧ b = 1) → a ≠ 33 → a ≠ 34 → ¬(a = 29 ∧ b = 0) → μ' a b = ν a b) → fv μ' 1 = fp_rn (fv ν 1) → sx_3 μ' 34 → μ' 29 0 = ν 1 4 → (∀ p : Nat, (p : Int) < ν 1 4 → μ' 34 p = fp_od (fp_tf (fv ν 1)) (ν 1 4) p) → (∀ i : Nat, (i : Int) < ν 1 4 → μ' 33 i = fp_tf (fv ν 1) i) → Q (some (.inl (fp_f (fv ν 1)))) μ') : am_Does l 34 [.inr (.inr 29), .inr (.inr 1)] ν Q := by
  refine am_Does_of (Nat.le_of_ble_eq_true rfl) (Nat.le_of_ble_eq_true rfl) (Nat.le_of_ble_eq_true rfl) ?_
  obtain ⟨hf, hr, hy, hs, -, -, -⟩ := fw_C hw hW
  have hn := hf.1.2
  have fb := fp_f_b (fv ν 1)
  have gb := fp_g_b (fv ν 1)
  have cf : am_c (fp_f (fv ν 1)) = fp_f (fv ν 1) := am_cR (by omega) (by omega)
  have fn : fp_f (fv ν 1) < ν 1 4 := by rw [← fv_f hn]; exact fp_od_n hn (by decide) (by omega)
  have gn : fp_g (fv ν 1) < ν 1 4 := by rw [← fv_g hn]; exact fp_od_n hn (by omega) (by omega)
  have cn : am_c (ν 1 4) = ν 1 4 := am_cR (by omega) (by omega)
  have kk := fun (μ' : am_N) (x : Int) a1 a2 a3 a4 a5 a6 (e : x = fp_f (fv ν 1)) => am_qe (k μ' a1 a2 a3 a4 a5 a6) e
  refine am_go (ct := fun _ => false) am_oX2_goOn 300 ?_
  conv => whnf
  repeat' first
    | (refine (?_ : am_wp _ _ _ _ _ _ _ _ _ _ _ _); conv => whnf)
    | (refine (?_ : am_sw _ _ _ _); conv => whnf)
    | refine And.intro trivial ?_
    | exact trivial
    | ((with_reducible refine (?_ : am_Does _ 33 _ _ _)); (refine x_asRule_29_1 hf (fun μ1 f1 n1 o1 t1 b1 => ?_); have w1 : μ1 34 0 = fp_f (fv ν 1) := (fp_od_o hn o1 0 (by omega)).trans (fv_f hn); have g1 : μ1 34 (μ1 29 0 - 1).toNat = fp_g (fv ν 1) := (by rw [n1, fp_od_o hn o1 _ (by omega), show (((ν 1 4 - 1).toNat : Nat) : Int) = ν 1 4 - 1 by omega]; exact fv_g hn); have e4 : μ1 1 4 = ν 1 4 := f1 1 4 (by decide) (by decide) (by decide)))
    | ((with_reducible refine (?_ : am_Does _ 37 _ _ _)); refine x_first_29_1 (fp_f (fv ν 1)) w1 ?_ ?_ ?_)
    | ((with_reducible refine (?_ : am_Does _ 1 _ _ _)); refine x_hasT_1 _ ?_ ?_ ?_ ?_)
    | ((with_reducible refine (?_ : am_Does _ 35 _ _ _)); refine x_behind_29_1 (fp_f (fv ν 1)) (fp_g (fv ν 1)) ?_ ?_ ?_ ?_ ?_ ?_ ?_ ?_ ?_ ?_ ?_ (fun μ2 f2 s2 k2 => ?_))
    | refine kk _ _ ?_ ?_ ?_ ?_ ?_ ?_ ?_
    | refine And.intro (fun h => absurd h (by decide)) (fun _ => ?_)
    | refine And.intro (fun _ => ?_) (fun h => absurd (by decide) h)
    | refine And.intro (fun _ => ?_) (fun _ => ?_)
    | refine And.intro ?_ ?_
  all_goals (first | decide | omega | (rw [am_upN (by first | decide | omega | exact fun z => absurd z.1 (by decide)), f1 _ _ (by first | decide | omega | exact fun z => absurd z.1 (by decide)) (by first | decide | omega | exact fun z => absurd z.1 (by decide)) (by first | decide | omega | exact fun z => absurd z.1 (by decide))]; omega) | exact w1 | exact g1 | (simp only [cf] at *; omega) | (rw [am_upN (by first | decide | omega | exact fun z => absurd z.1 (by decide))]; first | exact w1 | (rw [am_upN (by first | decide | omega | exact fun z => absurd z.1 (by decide))]; exact g1) | (rw [n1]; omega) | (rw [am_upN (by first | decide | omega | exact fun z => absurd z.1 (by decide)), n1]; omega) | (rw [e4]; omega) | (rw [f1 _ _ (by first | decide | omega | exact fun z => absurd z.1 (by decide)) (by first | decide | omega | exact fun z => absurd z.1 (by decide)) (by first | decide | omega | exact fun z => absurd z.1 (by decide))]; assumption) | (rw [f1 _ _ (by first | decide | omega | exact fun z => absurd z.1 (by decide)) (by first | decide | omega | exact fun z => absurd z.1 (by decide)) (by first | decide | omega | exact fun z => absurd z.1 (by decide))]; exact hr) | (rw [f1 _ _ (by first | decide | omega | exact fun z => absurd z.1 (by decide)) (by first | decide | omega | exact fun z => absurd z.1 (by decide)) (by first | decide | omega | exact fun z => absurd z.1 (by decide))]; exact hy)) | (intro b hb; rw [am_upN (by first | decide | omega | exact fun z => absurd z.1 (by decide)), f1 _ _ (by first | decide | omega | exact fun z => absurd z.1 (by decide)) (by first | decide | omega | exact fun z => absurd z.1 (by decide)) (by first | decide | omega | exact fun z => absurd z.1 (by decide))]; exact hs b hb) | (intro a b q1 q2 q3 q4 q5 q6; rw [f2 a b q1 q3, am_upN q2]; exact f1 a b q4 q5 q6) | (intro p hp2; rw [f2 _ _ (by first | decide | omega | exact fun z => absurd z.1 (by decide)) (by first | decide | omega | exact fun z => absurd z.1 (by decide)), am_upN (by first | decide | omega | exact fun z => absurd z.1 (by decide))]; exact b1 hp p hp2) | (rw [f2 _ _ (by first | decide | omega | exact fun z => absurd z.1 (by decide)) (by first | decide | omega | exact fun z => absurd z.1 (by decide)), am_upN (by first | decide | omega | exact fun z => absurd z.1 (by decide))]; exact n1) | (intro p hp2; rw [f2 _ _ (by first | decide | omega | exact fun z => absurd z.1 (by decide)) (by first | decide | omega | exact fun z => absurd z.1 (by decide)), am_upN (by first | decide | omega | exact fun z => absurd z.1 (by decide)), fp_od_o hn o1 p hp2]; exact fp_od_t hn (fun i hi => fv_T hi)) | (intro i hi; rw [f2 _ _ (by first | decide | omega | exact fun z => absurd z.1 (by decide)) (by first | decide | omega | exact fun z => absurd z.1 (by decide)), am_upN (by first | decide | omega | exact fun z => absurd z.1 (by decide)), t1 i hi]; exact fv_T (by first | decide | omega | exact fun z => absurd z.1 (by decide))) | (refine fv_rn (fun b hb => ?_) (fun b hb => ?_) ?_ (fun b hb => ?_) (fun a b q1 q2 => ?_); (show μ2 7 b = _; rw [f2 _ _ (by first | decide | omega | exact fun z => absurd z.1 (by decide)) (by first | decide | omega | exact fun z => absurd z.1 (by decide)), cf]; by_cases d : (b : Int) = fp_f (fv ν 1); (rw [am_upS, if_pos ⟨rfl, by omega⟩, if_pos d, show (fp_f (fv ν 1)).toNat = b by omega, f1 _ _ (by first | decide | omega | exact fun z => absurd z.1 (by decide)) (by first | decide | omega | exact fun z => absurd z.1 (by decide)) (by first | decide | omega | exact fun z => absurd z.1 (by decide))]); (rw [am_upM (by first | decide | omega | exact fun z => absurd z.1 (by decide)), if_neg d, f1 _ _ (by first | decide | omega | exact fun z => absurd z.1 (by decide)) (by first | decide | omega | exact fun z => absurd z.1 (by decide)) (by first | decide | omega | exact fun z => absurd z.1 (by decide))])); (show μ2 6 b = _; rw [s2, am_upN (by first | decide | omega | exact fun z => absurd z.1 (by decide)), am_upN (by first | decide | omega | exact fun z => absurd z.1 (by decide)), am_upN (by first | decide | omega | exact fun z => absurd z.1 (by decide)), f1 1 2 (by first | decide | omega | exact fun z => absurd z.1 (by decide)) (by first | decide | omega | exact fun z => absurd z.1 (by decide)) (by first | decide | omega | exact fun z => absurd z.1 (by decide)), f1 1 3 (by first | decide | omega | exact fun z => absurd z.1 (by decide)) (by first | decide | omega | exact fun z => absurd z.1 (by decide)) (by first | decide | omega | exact fun z => absurd z.1 (by decide)), e4]; exact am_mn_c fb.1 fb.2 gb.1 gb.2 (fun b hb => by rw [am_upN (by first | decide | omega | exact fun z => absurd z.1 (by decide)), f1 _ _ (by first | decide | omega | exact fun z => absurd z.1 (by decide)) (by first | decide | omega | exact fun z => absurd z.1 (by decide)) (by first | decide | omega | exact fun z => absurd z.1 (by decide))]) b hb); (rw [k2, am_upN (by first | decide | omega | exact fun z => absurd z.1 (by decide)), f1 _ _ (by first | decide | omega | exact fun z => absurd z.1 (by decide)) (by first | decide | omega | exact fun z => absurd z.1 (by decide)) (by first | decide | omega | exact fun z => absurd z.1 (by decide))]); (rw [f2 _ _ (by first | decide | omega | exact fun z => absurd z.1 (by decide)) (by first | decide | omega | exact fun z => absurd z.1 (by decide)), am_upN (by first | decide | omega | exact fun z => absurd z.1 (by decide))]; exact f1 _ _ (by first | decide | omega | exact fun z => absurd z.1 (by decide)) (by first | decide | omega | exact fun z => absurd z.1 (by decide)) (by first | decide | omega | exact fun z => absurd z.1 (by decide))); (rw [f2 _ _ (by first | decide | omega | exact fun z => absurd z.1 (by decide)) (by first | decide | omega | exact fun z => absurd z.1 (by decide)), am_upN (show 1 + a ≠ 7 by omega)]; exact f1 _ _ (by first | decide | omega | exact fun z => absurd z.1 (by decide)) (by first | decide | omega | exact fun z => absurd z.1 (by decide)) (by first | decide | omega | exact fun z => absurd z.1 (by decide)))))
theorem x_first_29_8 {l : Launch} {ν : am_N} {Q : Option am_V → am_N → Prop} (F : Int) (h : ν 34 0 = F) (hn : 0 < ν 29 0) (hn1 : ν 29 0 ≤ 4) (k : Q (some (.inl F)) ν) : am_Does l 37 [.inr (.inr 29)] ν Q := by
  refine am_Does_of (Nat.le_of_ble_eq_true rfl) (Nat.le_of_ble_eq_true rfl) (Nat.le_of_ble_eq_true rfl) ?_
  have cn : am_c (ν 29 0) = ν 29 0 := am_cR (by omega) (by omega)
  have c0 : am_c 0 = 0 := rfl
  refine am_go (ct := fun _ => false) am_oX2_first 300 ?_
  conv => whnf
  repeat' first
    | (refine (?_ : am_wp _ _ _ _ _ _ _ _ _ _ _ _); conv => whnf)
    | (refine (?_ : am_sw _ _ _ _); conv => whnf)
    | refine And.intro trivial ?_
    | exact trivial
    | refine am_qe k ?_
    | refine And.intro (fun h => absurd h (by decide)) (fun _ => ?_)
    | refine And.intro (fun _ => ?_) (fun h => absurd (by decide) h)
    | refine And.intro (fun _ => ?_) (fun _ => ?_)
    | refine And.intro ?_ ?_
  all_goals (first | decide | omega | exact h | (simp only [cn, c0] at *; omega) | (trace_state; fail))
theorem x_last_29_8 {l : Launch} {ν : am_N} {Q : Option am_V → am_N → Prop} (G : Int) (h : ν 34 (ν 29 0 - 1).toNat = G) (hn : 0 < ν 29 0) (hn1 : ν 29 0 ≤ 4) (k : Q (some (.inl G)) ν) : am_Does l 38 [.inr (.inr 29)] ν Q := by
  refine am_Does_of (Nat.le_of_ble_eq_true rfl) (Nat.le_of_ble_eq_true rfl) (Nat.le_of_ble_eq_true rfl) ?_
  have cn : am_c (ν 29 0) = ν 29 0 := am_cR (by omega) (by omega)
  have c0 : am_c 0 = 0 := rfl
  have c1 : am_c (ν 29 0 - 1) = ν 29 0 - 1 := am_cR (by omega) (by omega)
  refine am_go (ct := fun _ => false) am_oX2_last 300 ?_
  conv => whnf
  repeat' first
    | (refine (?_ : am_wp _ _ _ _ _ _ _ _ _ _ _ _); conv => whnf)
    | (refine (?_ : am_sw _ _ _ _); conv => whnf)
    | refine And.intro trivial ?_
    | exact trivial
    | refine am_qe k ?_
    | refine And.intro (fun h => absurd h (by decide)) (fun _ => ?_)
    | refine And.intro (fun _ => ?_) (fun h => absurd (by decide) h)
    | refine And.intro (fun _ => ?_) (fun _ => ?_)
    | refine And.intro ?_ ?_
  all_goals (first | decide | omega | (rw [c1]; exact h) | (simp only [cn, c0, c1] at *; omega) | (trace_state; fail))
theorem x_behind_29_8 {l : Launch} {ν : am_N} {Q : Option am_V → am_N → Prop} (F G : Int) (hF : ν 34 0 = F) (hG : ν 34 (ν 29 0 - 1).toNat = G) (en : ν 29 0 = ν 8 4) (hF0 : 0 ≤ F) (hF1 : F < ν 8 4) (hG0 : 0 ≤ G) (hG1 : G < ν 8 4) (hn : ν 8 4 ≤ 4) (hr : 0 ≤ ν 8 2 ∧ ν 8 2 ≤ 4) (hy : 1 ≤ ν 8 3 ∧ ν 8 3 ≤ 9) (hs : ∀ b : Nat, b < 4 → 0 ≤ ν 13 b ∧ ν 13 b ≤ 99) (k : ∀ μ' : am_N, (∀ a b, a ≠ 13 → ¬(a = 8 ∧ b = 1) → μ' a b = ν a b) → μ' 13 = am_mn (ν 8 2) (ν 8 3) (ν 8 4) F G (ν 13) → μ' 8 1 = ν 8 1 + 1 → Q none μ') : am_Does l 35 [.inr (.inr 29), .inr (.inr 8)] ν Q := by
  refine am_Does_of (Nat.le_of_ble_eq_true rfl) (Nat.le_of_ble_eq_true rfl) (Nat.le_of_ble_eq_true rfl) ?_
  refine am_go (ct := fun _ => false) am_oX2_behind 300 ?_
  conv => whnf
  repeat' first
    | (refine (?_ : am_wp _ _ _ _ _ _ _ _ _ _ _ _); conv => whnf)
    | (refine (?_ : am_sw _ _ _ _); conv => whnf)
    | refine And.intro trivial ?_
    | exact trivial
    | ((with_reducible refine (?_ : am_Does _ 37 _ _ _)); refine x_first_29_8 F hF ?_ ?_ ?_)
    | ((with_reducible refine (?_ : am_Does _ 38 _ _ _)); refine x_last_29_8 G hG ?_ ?_ ?_)
    | ((with_reducible refine (?_ : am_Does _ 12 _ _ _)); refine x_mend_8 _ _ hF0 hF1 hG0 hG1 hn hr hy hs (fun μ1 f1 s1 => ?_))
    | refine k _ ?_ ?_ ?_
    | refine And.intro (fun h => absurd h (by decide)) (fun _ => ?_)
    | refine And.intro (fun _ => ?_) (fun h => absurd (by decide) h)
    | refine And.intro (fun _ => ?_) (fun _ => ?_)
    | refine And.intro ?_ ?_
  all_goals (first | decide | omega | (intro a b h1 h2; rw [am_uE h2]; exact f1 a b h1) | (rw [am_pt_up]; exact s1) | (funext b; rw [am_upN (by decide), s1]) | (rw [am_upS, if_pos ⟨rfl, rfl⟩, f1 _ _ (by decide)]) | (trace_state; fail))
theorem x_first_38_8 {l : Launch} {ν : am_N} {Q : Option am_V → am_N → Prop} (F : Int) (h : ν 43 0 = F) (hn : 0 < ν 38 0) (hn1 : ν 38 0 ≤ 4) (k : Q (some (.inl F)) ν) : am_Does l 37 [.inr (.inr 38)] ν Q := by
  refine am_Does_of (Nat.le_of_ble_eq_true rfl) (Nat.le_of_ble_eq_true rfl) (Nat.le_of_ble_eq_true rfl) ?_
  have cn : am_c (ν 38 0) = ν 38 0 := am_cR (by omega) (by omega)
  have c0 : am_c 0 = 0 := rfl
  refine am_go (ct := fun _ => false) am_oX2_first 300 ?_
  conv => whnf
  repeat' first
    | (refine (?_ : am_wp _ _ _ _ _ _ _ _ _ _ _ _); conv => whnf)
    | (refine (?_ : am_sw _ _ _ _); conv => whnf)
    | refine And.intro trivial ?_
    | exact trivial
    | refine am_qe k ?_
    | refine And.intro (fun h => absurd h (by decide)) (fun _ => ?_)
    | refine And.intro (fun _ => ?_) (fun h => absurd (by decide) h)
    | refine And.intro (fun _ => ?_) (fun _ => ?_)
    | refine And.intro ?_ ?_
  all_goals (first | decide | omega | exact h | (simp only [cn, c0] at *; omega) | (trace_state; fail))
theorem x_last_38_8 {l : Launch} {ν : am_N} {Q : Option am_V → am_N → Prop} (G : Int) (h : ν 43 (ν 38 0 - 1).toNat = G) (hn : 0 < ν 38 0) (hn1 : ν 38 0 ≤ 4) (k : Q (some (.inl G)) ν) : am_Does l 38 [.inr (.inr 38)] ν Q := by
  refine am_Does_of (Nat.le_of_ble_eq_true rfl) (Nat.le_of_ble_eq_true rfl) (Nat.le_of_ble_eq_true rfl) ?_
  have cn : am_c (ν 38 0) = ν 38 0 := am_cR (by omega) (by omega)
  have c0 : am_c 0 = 0 := rfl
  have c1 : am_c (ν 38 0 - 1) = ν 38 0 - 1 := am_cR (by omega) (by omega)
  refine am_go (ct := fun _ => false) am_oX2_last 300 ?_
  conv => whnf
  repeat' first
    | (refine (?_ : am_wp _ _ _ _ _ _ _ _ _ _ _ _); conv => whnf)
    | (refine (?_ : am_sw _ _ _ _); conv => whnf)
    | refine And.intro trivial ?_
    | exact trivial
    | refine am_qe k ?_
    | refine And.intro (fun h => absurd h (by decide)) (fun _ => ?_)
    | refine And.intro (fun _ => ?_) (fun h => absurd (by decide) h)
    | refine And.intro (fun _ => ?_) (fun _ => ?_)
    | refine And.intro ?_ ?_
  all_goals (first | decide | omega | (rw [c1]; exact h) | (simp only [cn, c0, c1] at *; omega) | (trace_state; fail))
theorem x_behind_38_8 {l : Launch} {ν : am_N} {Q : Option am_V → am_N → Prop} (F G : Int) (hF : ν 43 0 = F) (hG : ν 43 (ν 38 0 - 1).toNat = G) (en : ν 38 0 = ν 8 4) (hF0 : 0 ≤ F) (hF1 : F < ν 8 4) (hG0 : 0 ≤ G) (hG1 : G < ν 8 4) (hn : ν 8 4 ≤ 4) (hr : 0 ≤ ν 8 2 ∧ ν 8 2 ≤ 4) (hy : 1 ≤ ν 8 3 ∧ ν 8 3 ≤ 9) (hs : ∀ b : Nat, b < 4 → 0 ≤ ν 13 b ∧ ν 13 b ≤ 99) (k : ∀ μ' : am_N, (∀ a b, a ≠ 13 → ¬(a = 8 ∧ b = 1) → μ' a b = ν a b) → μ' 13 = am_mn (ν 8 2) (ν 8 3) (ν 8 4) F G (ν 13) → μ' 8 1 = ν 8 1 + 1 → Q none μ') : am_Does l 35 [.inr (.inr 38), .inr (.inr 8)] ν Q := by
  refine am_Does_of (Nat.le_of_ble_eq_true rfl) (Nat.le_of_ble_eq_true rfl) (Nat.le_of_ble_eq_true rfl) ?_
  refine am_go (ct := fun _ => false) am_oX2_behind 300 ?_
  conv => whnf
  repeat' first
    | (refine (?_ : am_wp _ _ _ _ _ _ _ _ _ _ _ _); conv => whnf)
    | (refine (?_ : am_sw _ _ _ _); conv => whnf)
    | refine And.intro trivial ?_
    | exact trivial
    | ((with_reducible refine (?_ : am_Does _ 37 _ _ _)); refine x_first_38_8 F hF ?_ ?_ ?_)
    | ((with_reducible refine (?_ : am_Does _ 38 _ _ _)); refine x_last_38_8 G hG ?_ ?_ ?_)
    | ((with_reducible refine (?_ : am_Does _ 12 _ _ _)); refine x_mend_8 _ _ hF0 hF1 hG0 hG1 hn hr hy hs (fun μ1 f1 s1 => ?_))
    | refine k _ ?_ ?_ ?_
    | refine And.intro (fun h => absurd h (by decide)) (fun _ => ?_)
    | refine And.intro (fun _ => ?_) (fun h => absurd (by decide) h)
    | refine And.intro (fun _ => ?_) (fun _ => ?_)
    | refine And.intro ?_ ?_
  all_goals (first | decide | omega | (intro a b h1 h2; rw [am_uE h2]; exact f1 a b h1) | (rw [am_pt_up]; exact s1) | (funext b; rw [am_upN (by decide), s1]) | (rw [am_upS, if_pos ⟨rfl, rfl⟩, f1 _ _ (by decide)]) | (trace_state; fail))
theorem x_goOn_38_8 {l : Launch} {ν : am_N} {Q : Option am_V → am_N → Prop} (W : Int) (hw : fp_fw W (fv ν 8)) (hW : W ≤ 2000) (hn0 : 1 ≤ ν 8 4) (hp : sx_3 ν 43) (k : ∀ μ' : am_N, (∀ a b, a ≠ 13 → a ≠ 14 → ¬(a = 8 ∧ b = 1) → a ≠ 42 → a ≠ 43 → ¬(a = 38 ∧ b = 0) → μ' a b = ν a b) → fv μ' 8 = fp_rn (fv ν 8) → sx_3 μ' 43 → μ' 38 0 = ν 8 4 → (∀ p : Nat, (p : Int) < ν 8 4 → μ' 43 p = fp_od (fp_tf (fv ν 8)) (ν 8 4) p) → (∀ i : Nat, (i : Int) < ν 8 4 → μ' 42 i = fp_tf (fv ν 8) i) → Q (some (.inl (fp_f (fv ν 8)))) μ') : am_Does l 34 [.inr (.inr 38), .inr (.inr 8)] ν Q := by
  refine am_Does_of (Nat.le_of_ble_eq_true rfl) (Nat.le_of_ble_eq_true rfl) (Nat.le_of_ble_eq_true rfl) ?_
  obtain ⟨hf, hr, hy, hs, -, -, -⟩ := fw_C hw hW
  have hn := hf.1.2
  have fb := fp_f_b (fv ν 8)
  have gb := fp_g_b (fv ν 8)
  have cf : am_c (fp_f (fv ν 8)) = fp_f (fv ν 8) := am_cR (by omega) (by omega)
  have fn : fp_f (fv ν 8) < ν 8 4 := by rw [← fv_f hn]; exact fp_od_n hn (by decide) (by omega)
  have gn : fp_g (fv ν 8) < ν 8 4 := by rw [← fv_g hn]; exact fp_od_n hn (by omega) (by omega)
  have cn : am_c (ν 8 4) = ν 8 4 := am_cR (by omega) (by omega)
  have kk := fun (μ' : am_N) (x : Int) a1 a2 a3 a4 a5 a6 (e : x = fp_f (fv ν 8)) => am_qe (k μ' a1 a2 a3 a4 a5 a6) e
  refine am_go (ct := fun _ => false) am_oX2_goOn 300 ?_
  conv => whnf
  repeat' first
    | (refine (?_ : am_wp _ _ _ _ _ _ _ _ _ _ _ _); conv => whnf)
    | (refine (?_ : am_sw _ _ _ _); conv => whnf)
    | refine And.intro trivial ?_
    | exact trivial
    | ((with_reducible refine (?_ : am_Does _ 33 _ _ _)); (refine x_asRule_38_8 hf (fun μ1 f1 n1 o1 t1 b1 => ?_); have w1 : μ1 43 0 = fp_f (fv ν 8) := (fp_od_o hn o1 0 (by omega)).trans (fv_f hn); have g1 : μ1 43 (μ1 38 0 - 1).toNat = fp_g (fv ν 8) := (by rw [n1, fp_od_o hn o1 _ (by omega), show (((ν 8 4 - 1).toNat : Nat) : Int) = ν 8 4 - 1 by omega]; exact fv_g hn); have e4 : μ1 8 4 = ν 8 4 := f1 8 4 (by decide) (by decide) (by decide)))
    | ((with_reducible refine (?_ : am_Does _ 37 _ _ _)); refine x_first_38_8 (fp_f (fv ν 8)) w1 ?_ ?_ ?_)
    | ((with_reducible refine (?_ : am_Does _ 1 _ _ _)); refine x_hasT_8 _ ?_ ?_ ?_ ?_)
    | ((with_reducible refine (?_ : am_Does _ 35 _ _ _)); refine x_behind_38_8 (fp_f (fv ν 8)) (fp_g (fv ν 8)) ?_ ?_ ?_ ?_ ?_ ?_ ?_ ?_ ?_ ?_ ?_ (fun μ2 f2 s2 k2 => ?_))
    | refine kk _ _ ?_ ?_ ?_ ?_ ?_ ?_ ?_
    | refine And.intro (fun h => absurd h (by decide)) (fun _ => ?_)
    | refine And.intro (fun _ => ?_) (fun h => absurd (by decide) h)
    | refine And.intro (fun _ => ?_) (fun _ => ?_)
    | refine And.intro ?_ ?_
  all_goals (first | decide | omega | (rw [am_upN (by first | decide | omega | exact fun z => absurd z.1 (by decide)), f1 _ _ (by first | decide | omega | exact fun z => absurd z.1 (by decide)) (by first | decide | omega | exact fun z => absurd z.1 (by decide)) (by first | decide | omega | exact fun z => absurd z.1 (by decide))]; omega) | exact w1 | exact g1 | (simp only [cf] at *; omega) | (rw [am_upN (by first | decide | omega | exact fun z => absurd z.1 (by decide))]; first | exact w1 | (rw [am_upN (by first | decide | omega | exact fun z => absurd z.1 (by decide))]; exact g1) | (rw [n1]; omega) | (rw [am_upN (by first | decide | omega | exact fun z => absurd z.1 (by decide)), n1]; omega) | (rw [e4]; omega) | (rw [f1 _ _ (by first | decide | omega | exact fun z => absurd z.1 (by decide)) (by first | decide | omega | exact fun z => absurd z.1 (by decide)) (by first | decide | omega | exact fun z => absurd z.1 (by decide))]; assumption) | (rw [f1 _ _ (by first | decide | omega | exact fun z => absurd z.1 (by decide)) (by first | decide | omega | exact fun z => absurd z.1 (by decide)) (by first | decide | omega | exact fun z => absurd z.1 (by decide))]; exact hr) | (rw [f1 _ _ (by first | decide | omega | exact fun z => absurd z.1 (by decide)) (by first | decide | omega | exact fun z => absurd z.1 (by decide)) (by first | decide | omega | exact fun z => absurd z.1 (by decide))]; exact hy)) | (intro b hb; rw [am_upN (by first | decide | omega | exact fun z => absurd z.1 (by decide)), f1 _ _ (by first | decide | omega | exact fun z => absurd z.1 (by decide)) (by first | decide | omega | exact fun z => absurd z.1 (by decide)) (by first | decide | omega | exact fun z => absurd z.1 (by decide))]; exact hs b hb) | (intro a b q1 q2 q3 q4 q5 q6; rw [f2 a b q1 q3, am_upN q2]; exact f1 a b q4 q5 q6) | (intro p hp2; rw [f2 _ _ (by first | decide | omega | exact fun z => absurd z.1 (by decide)) (by first | decide | omega | exact fun z => absurd z.1 (by decide)), am_upN (by first | decide | omega | exact fun z => absurd z.1 (by decide))]; exact b1 hp p hp2) | (rw [f2 _ _ (by first | decide | omega | exact fun z => absurd z.1 (by decide)) (by first | decide | omega | exact fun z => absurd z.1 (by decide)), am_upN (by first | decide | omega | exact fun z => absurd z.1 (by decide))]; exact n1) | (intro p hp2; rw [f2 _ _ (by first | decide | omega | exact fun z => absurd z.1 (by decide)) (by first | decide | omega | exact fun z => absurd z.1 (by decide)), am_upN (by first | decide | omega | exact fun z => absurd z.1 (by decide)), fp_od_o hn o1 p hp2]; exact fp_od_t hn (fun i hi => fv_T hi)) | (intro i hi; rw [f2 _ _ (by first | decide | omega | exact fun z => absurd z.1 (by decide)) (by first | decide | omega | exact fun z => absurd z.1 (by decide)), am_upN (by first | decide | omega | exact fun z => absurd z.1 (by decide)), t1 i hi]; exact fv_T (by first | decide | omega | exact fun z => absurd z.1 (by decide))) | (refine fv_rn (fun b hb => ?_) (fun b hb => ?_) ?_ (fun b hb => ?_) (fun a b q1 q2 => ?_); (show μ2 14 b = _; rw [f2 _ _ (by first | decide | omega | exact fun z => absurd z.1 (by decide)) (by first | decide | omega | exact fun z => absurd z.1 (by decide)), cf]; by_cases d : (b : Int) = fp_f (fv ν 8); (rw [am_upS, if_pos ⟨rfl, by omega⟩, if_pos d, show (fp_f (fv ν 8)).toNat = b by omega, f1 _ _ (by first | decide | omega | exact fun z => absurd z.1 (by decide)) (by first | decide | omega | exact fun z => absurd z.1 (by decide)) (by first | decide | omega | exact fun z => absurd z.1 (by decide))]); (rw [am_upM (by first | decide | omega | exact fun z => absurd z.1 (by decide)), if_neg d, f1 _ _ (by first | decide | omega | exact fun z => absurd z.1 (by decide)) (by first | decide | omega | exact fun z => absurd z.1 (by decide)) (by first | decide | omega | exact fun z => absurd z.1 (by decide))])); (show μ2 13 b = _; rw [s2, am_upN (by first | decide | omega | exact fun z => absurd z.1 (by decide)), am_upN (by first | decide | omega | exact fun z => absurd z.1 (by decide)), am_upN (by first | decide | omega | exact fun z => absurd z.1 (by decide)), f1 8 2 (by first | decide | omega | exact fun z => absurd z.1 (by decide)) (by first | decide | omega | exact fun z => absurd z.1 (by decide)) (by first | decide | omega | exact fun z => absurd z.1 (by decide)), f1 8 3 (by first | decide | omega | exact fun z => absurd z.1 (by decide)) (by first | decide | omega | exact fun z => absurd z.1 (by decide)) (by first | decide | omega | exact fun z => absurd z.1 (by decide)), e4]; exact am_mn_c fb.1 fb.2 gb.1 gb.2 (fun b hb => by rw [am_upN (by first | decide | omega | exact fun z => absurd z.1 (by decide)), f1 _ _ (by first | decide | omega | exact fun z => absurd z.1 (by decide)) (by first | decide | omega | exact fun z => absurd z.1 (by decide)) (by first | decide | omega | exact fun z => absurd z.1 (by decide))]) b hb); (rw [k2, am_upN (by first | decide | omega | exact fun z => absurd z.1 (by decide)), f1 _ _ (by first | decide | omega | exact fun z => absurd z.1 (by decide)) (by first | decide | omega | exact fun z => absurd z.1 (by decide)) (by first | decide | omega | exact fun z => absurd z.1 (by decide))]); (rw [f2 _ _ (by first | decide | omega | exact fun z => absurd z.1 (by decide)) (by first | decide | omega | exact fun z => absurd z.1 (by decide)), am_upN (by first | decide | omega | exact fun z => absurd z.1 (by decide))]; exact f1 _ _ (by first | decide | omega | exact fun z => absurd z.1 (by decide)) (by first | decide | omega | exact fun z => absurd z.1 (by decide)) (by first | decide | omega | exact fun z => absurd z.1 (by decide))); (rw [f2 _ _ (by first | decide | omega | exact fun z => absurd z.1 (by decide)) (by first | decide | omega | exact fun z => absurd z.1 (by decide)), am_upN (show 8 + a ≠ 14 by omega)]; exact f1 _ _ (by first | decide | omega | exact fun z => absurd z.1 (by decide)) (by first | decide | omega | exact fun z => absurd z.1 (by decide)) (by first | decide | omega | exact fun z => absurd z.1 (by decide)))))
theorem x_held {l : Launch} {μ : am_N} {Q : Option am_V → am_N → Prop} (v : Int) (h0 : -100000 ≤ v) (h1 : v ≤ 100000) (k : Q (some (.inl (am_hd v))) μ) : am_Does l 170 [.inl v] μ Q := by
  refine am_Does_of (Nat.le_of_ble_eq_true rfl) (Nat.le_of_ble_eq_true rfl) (Nat.le_of_ble_eq_true rfl) ?_
  have cv : am_c v = v := am_cR (by omega) (by omega)
  have c99 : am_c 99 = 99 := rfl
  have c0 : am_c 0 = 0 := rfl
  refine am_go (ct := fun _ => false) am_oX7_held 300 ?_
  conv => whnf
  repeat' first
    | (refine (?_ : am_wp _ _ _ _ _ _ _ _ _ _ _ _); conv => whnf)
    | (refine (?_ : am_sw _ _ _ _); conv => whnf)
    | refine And.intro trivial ?_
    | exact trivial
    | refine am_qe k ?_
    | refine And.intro (fun h => absurd h (by decide)) (fun _ => ?_)
    | refine And.intro (fun _ => ?_) (fun h => absurd (by decide) h)
    | refine And.intro (fun _ => ?_) (fun _ => ?_)
    | refine And.intro ?_ ?_
  all_goals (first | omega | (unfold am_hd; first | (rw [if_pos (by simp only [cv, c99, c0] at *; omega)]) | (rw [if_neg (by simp only [cv, c99, c0] at *; omega), if_pos (by simp only [cv, c99, c0] at *; omega)]) | (rw [if_neg (by simp only [cv, c99, c0] at *; omega), if_neg (by simp only [cv, c99, c0] at *; omega)])) | (trace_state; fail))
theorem x_mends {l : Launch} {ν : am_N} {Q : Option am_V → am_N → Prop} (F G : Int) (hF : ν 100 0 = F) (hG : ν 100 (ν 83 14 - 1).toNat = G) (hF0 : 0 ≤ F) (hF1 : F < ν 83 14) (hG0 : 0 ≤ G) (hG1 : G < ν 83 14) (hn : ν 83 14 ≤ 4) (hr : 0 ≤ ν 83 12 ∧ ν 83 12 ≤ 4) (hy : 1 ≤ ν 83 13 ∧ ν 83 13 ≤ 9) (hs : ∀ b : Nat, b < 4 → 0 ≤ ν 89 b ∧ ν 89 b ≤ 99) (k : ∀ μ' : am_N, (∀ a b, a ≠ 89 → a ≠ 90 → ¬(a = 83 ∧ b = 11) → μ' a b = ν a b) → μ' 89 = am_mn (ν 83 12) (ν 83 13) (ν 83 14) F G (ν 89) → (∀ b : Nat, μ' 90 b = if (b : Int) = F then ν 90 b + 1 else ν 90 b) → μ' 83 11 = ν 83 11 + 1 → Q none μ') : am_Does l 171 [.inr (.inr 83)] ν Q := by
  refine am_Does_of (Nat.le_of_ble_eq_true rfl) (Nat.le_of_ble_eq_true rfl) (Nat.le_of_ble_eq_true rfl) ?_
  have cF : am_c F = F := am_cR (by omega) (by omega)
  have cG : am_c G = G := am_cR (by omega) (by omega)
  have cr : am_c (ν 83 12) = ν 83 12 := am_cR (by omega) (by omega)
  have c0 : am_c 0 = 0 := rfl
  have c1 : am_c 1 = 1 := rfl
  have c2 : am_c 2 = 2 := rfl
  have c3 : am_c 3 = 3 := rfl
  have c4 : am_c 4 = 4 := rfl
  have cn : am_c (ν 83 14) = ν 83 14 := am_cR (by omega) (by omega)
  have cn1 : am_c (ν 83 14 - 1) = ν 83 14 - 1 := am_cR (by omega) (by omega)
  have b1 := am_m1_b (rule := ν 83 12) (yard := ν 83 13) (f := F) hs
  have b2 := am_m2_b (rule := ν 83 12) (yard := ν 83 13) (g := G) b1
  have f1 := hs F.toNat (by omega)
  have lp101 : ∀ (m : Nat) (i : Int) (μ : am_N) , (∀ a b, a ≠ 89 → μ a b = ν a b) → 0 ≤ i → i ≤ ν 83 14 → μ 89 = am_m3 (ν 83 12) i F (am_m2 (ν 83 12) (ν 83 13) G (am_m1 (ν 83 12) (ν 83 13) F (ν 89))) → ν 83 14 - i < (m : Int) → am_AW l 0 (fun _ => 0) 171 Q 101 [some (.inr (.inr 83)), some (.inl F), some (.inl G), some (.inl i)] [] μ := by
    intro m
    induction m with
    | zero =>
      intro i μ hv0 hv1 hv2 hv3 hm
      exfalso
      omega
    | succ m ih =>
      intro i μ hv0 hv1 hv2 hv3 hm
      have e2 : μ 83 12 = ν 83 12 := hv0 83 12 (by decide)
      have e3 : μ 83 13 = ν 83 13 := hv0 83 13 (by decide)
      have e4 : μ 83 14 = ν 83 14 := hv0 83 14 (by decide)
      have ci : am_c i = i := am_cR (by omega) (by omega)
      have b3 := am_m3_b (rule := ν 83 12) (i := i) (f := F) b2
      have fi := fun q : i < 4 => b3 i.toNat (by omega)
      refine am_go (ct := fun pc => Nat.beq pc 101 || Nat.beq pc 99 || Nat.beq pc 63 || Nat.beq pc 19) am_oX7_mends 300 ?_
      conv => whnf
      repeat' first
        | (refine (?_ : am_wp _ _ _ _ _ _ _ _ _ _ _ _); conv => whnf)
        | (refine (?_ : am_sw _ _ _ _); conv => whnf)
        | refine And.intro trivial ?_
        | exact trivial
        | ((with_reducible refine (?_ : am_Does _ 170 _ _ _)); refine x_held _ ?_ ?_ ?_)
        | refine k _ ?_ ?_ ?_ ?_
        | ((with_reducible refine (?_ : am_AW _ _ _ _ _ 101 _ _ _)); refine ih _ _ ?_ ?_ ?_ ?_ ?_)
        | refine And.intro (fun h => absurd h (by decide)) (fun _ => ?_)
        | refine And.intro (fun _ => ?_) (fun h => absurd (by decide) h)
        | refine And.intro (fun _ => ?_) (fun _ => ?_)
        | refine And.intro ?_ ?_
      all_goals (first | decide | omega | (simp only [e2, e3, e4, ci, cn, cF, cr, c4] at *; omega) | (rw [hv3, ci]; have z := fi (by simp only [e2, e3, e4, ci, cn, cF, cr, c4] at *; omega); omega) | (intro a b h; rw [am_upN h]; exact hv0 a b h) | (intro a b h1 h2 h3; rw [am_uE h3, am_upN h2]; exact hv0 a b h1) | (rw [am_upN (by decide), am_upN (by decide)]) | (funext b; rw [am_upN (by decide), am_upN (by decide), hv3]; unfold am_mn; first | (rw [am_m3_n (by simp only [e2, e3, e4, ci, cn, cF, cr, c4] at *; omega), am_m3_n (by simp only [e2, e3, e4, ci, cn, cF, cr, c4] at *; omega)]) | (rw [show i = ν 83 14 by simp only [e2, e3, e4, ci, cn, cF, cr, c4] at *; omega])) | (intro b; rw [am_upN (by decide), cF]; by_cases d : (b : Int) = F; (rw [am_upS, if_pos ⟨rfl, by omega⟩, if_pos d, hv0 _ _ (by decide), show F.toNat = b by omega]); (rw [am_upM (by omega), if_neg d]; exact hv0 _ _ (by decide))) | (rw [am_upS, if_pos ⟨rfl, rfl⟩, am_upN (by decide)]; rw [hv0 _ _ (by decide)]) | (rw [hv3]; exact am_m3_f (by simp only [e2, e3, e4, ci, cn, cF, cr, c4] at *; omega)) | (rw [am_pt_up, hv3, ci]; exact am_m3_s (by simp only [e2, e3, e4, ci, cn, cF, cr, c4] at *; omega) hv1 (by simp only [e2, e3, e4, ci, cn, cF, cr, c4] at *; omega) rfl rfl) | (trace_state; fail))
  have lp101' : ∀ (i : Int) (μ : am_N) , (∀ a b, a ≠ 89 → μ a b = ν a b) → 0 ≤ i → i ≤ ν 83 14 → μ 89 = am_m3 (ν 83 12) i F (am_m2 (ν 83 12) (ν 83 13) G (am_m1 (ν 83 12) (ν 83 13) F (ν 89))) → am_AW l 0 (fun _ => 0) 171 Q 101 [some (.inr (.inr 83)), some (.inl F), some (.inl G), some (.inl i)] [] μ := fun i μ hv0 hv1 hv2 hv3 => lp101 ((ν 83 14 - i) + 1).toNat i μ hv0 hv1 hv2 hv3 (by omega)
  have lp99 : ∀ (o3 : Option am_V) (μ : am_N), (∀ a b, a ≠ 89 → μ a b = ν a b) → μ 89 = am_m2 (ν 83 12) (ν 83 13) G (am_m1 (ν 83 12) (ν 83 13) F (ν 89)) → am_AW l 0 (fun _ => 0) 171 Q 99 [some (.inr (.inr 83)), some (.inl F), some (.inl G), o3] [] μ := by
    intro o3 μ hv0 hv1
    refine am_go (ct := fun pc => Nat.beq pc 101 || Nat.beq pc 99 || Nat.beq pc 63 || Nat.beq pc 19) am_oX7_mends 300 ?_
    conv => whnf
    repeat' first
      | (refine (?_ : am_wp _ _ _ _ _ _ _ _ _ _ _ _); conv => whnf)
      | (refine (?_ : am_sw _ _ _ _); conv => whnf)
      | refine And.intro trivial ?_
      | exact trivial
      | ((with_reducible refine (?_ : am_AW _ _ _ _ _ 101 _ _ _)); refine lp101' _ _ ?_ ?_ ?_ ?_)
      | refine And.intro (fun h => absurd h (by decide)) (fun _ => ?_)
      | refine And.intro (fun _ => ?_) (fun h => absurd (by decide) h)
      | refine And.intro (fun _ => ?_) (fun _ => ?_)
      | refine And.intro ?_ ?_
    all_goals (first | decide | omega | exact hv0 | (rw [hv1, am_m3_0]) | (trace_state; fail))
  have lp63 : ∀  (μ : am_N), (∀ a b, a ≠ 89 → μ a b = ν a b) → μ 89 = am_m1 (ν 83 12) (ν 83 13) F (ν 89) → am_AW l 0 (fun _ => 0) 171 Q 63 [some (.inr (.inr 83)), some (.inl F), some (.inl G), none] [] μ := by
    intro  μ hv0 hv1
    have e2 : μ 83 12 = ν 83 12 := hv0 83 12 (by decide)
    have e3 : μ 83 13 = ν 83 13 := hv0 83 13 (by decide)
    have e4 : μ 83 14 = ν 83 14 := hv0 83 14 (by decide)
    have g1 := b1 G.toNat (by omega)
    have y3 : μ 83 13 ≤ 9 ∧ 1 ≤ μ 83 13 := by rw [e3]; omega
    refine am_go (ct := fun pc => Nat.beq pc 101 || Nat.beq pc 99 || Nat.beq pc 63 || Nat.beq pc 19) am_oX7_mends 300 ?_
    conv => whnf
    repeat' first
      | (refine (?_ : am_wp _ _ _ _ _ _ _ _ _ _ _ _); conv => whnf)
      | (refine (?_ : am_sw _ _ _ _); conv => whnf)
      | refine And.intro trivial ?_
      | exact trivial
      | ((with_reducible refine (?_ : am_Does _ 170 _ _ _)); refine x_held _ ?_ ?_ ?_)
      | ((with_reducible refine (?_ : am_AW _ _ _ _ _ 99 _ _ _)); refine lp99 _ _ ?_ ?_)
      | ((with_reducible refine (?_ : am_AW _ _ _ _ _ 101 _ _ _)); refine lp101' _ _ ?_ ?_ ?_ ?_)
      | refine And.intro (fun h => absurd h (by decide)) (fun _ => ?_)
      | refine And.intro (fun _ => ?_) (fun h => absurd (by decide) h)
      | refine And.intro (fun _ => ?_) (fun _ => ?_)
      | refine And.intro ?_ ?_
    all_goals (first | decide | omega | exact hv0 | (simp only [e2, cr, c2, c3] at *; omega) | (rw [cG, hv1]; omega) | (intro a b h; rw [am_upN h]; exact hv0 a b h) | (rw [am_pt_up, hv1, cG]; unfold am_m2; rw [if_pos (by simp only [e2, cr, c2, c3] at *; omega), e3]) | (rw [hv1]; unfold am_m2; rw [if_neg (by simp only [e2, cr, c2, c3] at *; omega)]) | (trace_state; fail))
  have lp19 : ∀ (F2 G2 : Int), F2 = F → G2 = G → am_AW l 0 (fun _ => 0) 171 Q 19 [some (.inr (.inr 83)), some (.inl F2), some (.inl G2), none] [] ν := by
    intro F2 G2  hv0 hv1
    subst hv0
    subst hv1
    refine am_go (ct := fun pc => Nat.beq pc 101 || Nat.beq pc 99 || Nat.beq pc 63 || Nat.beq pc 19) am_oX7_mends 300 ?_
    conv => whnf
    repeat' first
      | (refine (?_ : am_wp _ _ _ _ _ _ _ _ _ _ _ _); conv => whnf)
      | (refine (?_ : am_sw _ _ _ _); conv => whnf)
      | refine And.intro trivial ?_
      | exact trivial
      | ((with_reducible refine (?_ : am_Does _ 170 _ _ _)); refine x_held _ ?_ ?_ ?_)
      | ((with_reducible refine (?_ : am_AW _ _ _ _ _ 63 _ _ _)); refine lp63  _ ?_ ?_)
      | ((with_reducible refine (?_ : am_AW _ _ _ _ _ 99 _ _ _)); refine lp99 _ _ ?_ ?_)
      | ((with_reducible refine (?_ : am_AW _ _ _ _ _ 101 _ _ _)); refine lp101' _ _ ?_ ?_ ?_ ?_)
      | refine And.intro (fun h => absurd h (by decide)) (fun _ => ?_)
      | refine And.intro (fun _ => ?_) (fun h => absurd (by decide) h)
      | refine And.intro (fun _ => ?_) (fun _ => ?_)
      | refine And.intro ?_ ?_
    all_goals (first | decide | omega | (simp only [cr, c1, c3, c4] at *; omega) | (rw [cF]; first | exact Int.le_trans (by decide) (Int.sub_le_sub f1.1 hy.2) | exact Int.le_trans (Int.sub_le_sub f1.2 hy.1) (by decide)) | exact fun _ _ _ => rfl | (intro a b h; exact am_upN h) | (rw [am_pt_up, cF]; unfold am_m1; rw [if_pos (by simp only [cr, c1, c3, c4] at *; omega)]) | (unfold am_m1; rw [if_neg (by simp only [cr, c1, c3, c4] at *; omega)]) | (trace_state; fail))
  refine am_go (ct := fun pc => Nat.beq pc 101 || Nat.beq pc 99 || Nat.beq pc 63 || Nat.beq pc 19) am_oX7_mends 300 ?_
  conv => whnf
  repeat' first
    | (refine (?_ : am_wp _ _ _ _ _ _ _ _ _ _ _ _); conv => whnf)
    | (refine (?_ : am_sw _ _ _ _); conv => whnf)
    | refine And.intro trivial ?_
    | exact trivial
    | ((with_reducible refine (?_ : am_AW _ _ _ _ _ 19 _ _ _)); refine lp19 _ _  ?_ ?_)
    | ((with_reducible refine (?_ : am_AW _ _ _ _ _ 63 _ _ _)); refine lp63  _ ?_ ?_)
    | ((with_reducible refine (?_ : am_AW _ _ _ _ _ 99 _ _ _)); refine lp99 _ _ ?_ ?_)
    | ((with_reducible refine (?_ : am_AW _ _ _ _ _ 101 _ _ _)); refine lp101' _ _ ?_ ?_ ?_ ?_)
    | refine And.intro (fun h => absurd h (by decide)) (fun _ => ?_)
    | refine And.intro (fun _ => ?_) (fun h => absurd (by decide) h)
    | refine And.intro (fun _ => ?_) (fun _ => ?_)
    | refine And.intro ?_ ?_
  all_goals (first | decide | omega | exact hF | (rw [cn1]; exact hG) | (simp only [cn1, c0] at *; omega) | (trace_state; fail))
theorem x_runs {l : Launch} {ν : am_N} {Q : Option am_V → am_N → Prop} (W : Int) (hw : fp_fw W (mv ν)) (hW : W ≤ 2000) (hn0 : 1 ≤ ν 83 14) (hp : sx_3 ν 100) (k : ∀ μ' : am_N, (∀ a b, a ≠ 89 → a ≠ 90 → ¬(a = 83 ∧ b = 11) → a ≠ 99 → a ≠ 100 → μ' a b = ν a b) → mv μ' = fp_rn (mv ν) → sx_3 μ' 100 → (∀ p : Nat, (p : Int) < ν 83 14 → μ' 100 p = fp_od (fp_tf (mv ν)) (ν 83 14) p) → (∀ i : Nat, (i : Int) < ν 83 14 → μ' 99 i = fp_tf (mv ν) i) → Q (some (.inl (fp_f (mv ν)))) μ') : am_Does l 172 [.inr (.inr 83)] ν Q := by
  refine am_Does_of (Nat.le_of_ble_eq_true rfl) (Nat.le_of_ble_eq_true rfl) (Nat.le_of_ble_eq_true rfl) ?_
  obtain ⟨hf, hr, hy, hs, -, -, -⟩ := fw_M hw hW
  have hn := hf.1.2
  have fb := fp_f_b (mv ν)
  have gb := fp_g_b (mv ν)
  have fn : fp_f (mv ν) < ν 83 14 := by rw [← mv_f hn]; exact fp_od_n hn (by decide) (by omega)
  have gn : fp_g (mv ν) < ν 83 14 := by rw [← mv_g hn]; exact fp_od_n hn (by omega) (by omega)
  have c0 : am_c 0 = 0 := rfl
  have kk := fun (μ' : am_N) (x : Int) a1 a2 a3 a4 a5 (e : x = fp_f (mv ν)) => am_qe (k μ' a1 a2 a3 a4 a5) e
  refine am_go (ct := fun _ => false) am_oX7_runs 300 ?_
  conv => whnf
  repeat' first
    | (refine (?_ : am_wp _ _ _ _ _ _ _ _ _ _ _ _); conv => whnf)
    | (refine (?_ : am_sw _ _ _ _); conv => whnf)
    | refine And.intro trivial ?_
    | exact trivial
    | ((with_reducible refine (?_ : am_Does _ 166 _ _ _)); (refine x_takesTimes hf (fun μ1 f1 o1 t1 b1 => ?_); have w1 : μ1 100 0 = fp_f (mv ν) := (fp_od_o hn o1 0 (by omega)).trans (mv_f hn); have e4 : μ1 83 14 = ν 83 14 := f1 83 14 (by decide) (by decide); have g1 : μ1 100 (μ1 83 14 - 1).toNat = fp_g (mv ν) := (by rw [e4, fp_od_o hn o1 _ (by omega), show (((ν 83 14 - 1).toNat : Nat) : Int) = ν 83 14 - 1 by omega]; exact mv_g hn)))
    | ((with_reducible refine (?_ : am_Does _ 171 _ _ _)); refine x_mends (fp_f (mv ν)) (fp_g (mv ν)) w1 g1 ?_ ?_ ?_ ?_ ?_ ?_ ?_ ?_ (fun μ2 f2 s2 v2 k2 => ?_))
    | refine kk _ _ ?_ ?_ ?_ ?_ ?_ ?_
    | refine And.intro (fun h => absurd h (by decide)) (fun _ => ?_)
    | refine And.intro (fun _ => ?_) (fun h => absurd (by decide) h)
    | refine And.intro (fun _ => ?_) (fun _ => ?_)
    | refine And.intro ?_ ?_
  all_goals (first | decide | omega | (rw [f1 _ _ (by first | decide | omega | exact fun z => absurd z.1 (by decide)) (by first | decide | omega | exact fun z => absurd z.1 (by decide))]; omega) | (simp only [c0] at *; omega) | (rw [f1 _ _ (by first | decide | omega | exact fun z => absurd z.1 (by decide)) (by first | decide | omega | exact fun z => absurd z.1 (by decide))]; first | exact hr | exact hy) | (intro b hb; rw [f1 _ _ (by first | decide | omega | exact fun z => absurd z.1 (by decide)) (by first | decide | omega | exact fun z => absurd z.1 (by decide))]; exact hs b hb) | (intro a b q1 q2 q3 q4 q5; rw [f2 a b q1 q2 q3]; exact f1 a b q4 q5) | (refine mv_rn (fun b hb => ?_) (fun b hb => ?_) ?_ (fun b hb => ?_) (fun a b q1 q2 => ?_); (rw [v2 b, f1 _ _ (by first | decide | omega | exact fun z => absurd z.1 (by decide)) (by first | decide | omega | exact fun z => absurd z.1 (by decide))]); (rw [s2, f1 83 12 (by first | decide | omega | exact fun z => absurd z.1 (by decide)) (by first | decide | omega | exact fun z => absurd z.1 (by decide)), f1 83 13 (by first | decide | omega | exact fun z => absurd z.1 (by decide)) (by first | decide | omega | exact fun z => absurd z.1 (by decide)), e4, show μ1 89 = ν 89 from funext (fun b => f1 89 b (by first | decide | omega | exact fun z => absurd z.1 (by decide)) (by first | decide | omega | exact fun z => absurd z.1 (by decide)))]); (rw [k2, f1 _ _ (by first | decide | omega | exact fun z => absurd z.1 (by decide)) (by first | decide | omega | exact fun z => absurd z.1 (by decide))]); (rw [f2 _ _ (by first | decide | omega | exact fun z => absurd z.1 (by decide)) (by first | decide | omega | exact fun z => absurd z.1 (by decide)) (by first | decide | omega | exact fun z => absurd z.1 (by decide))]; exact f1 _ _ (by first | decide | omega | exact fun z => absurd z.1 (by decide)) (by first | decide | omega | exact fun z => absurd z.1 (by decide))); (rw [f2 _ _ (by first | decide | omega | exact fun z => absurd z.1 (by decide)) (by first | decide | omega | exact fun z => absurd z.1 (by decide)) (by first | decide | omega | exact fun z => absurd z.1 (by decide))]; exact f1 _ _ (by first | decide | omega | exact fun z => absurd z.1 (by decide)) (by first | decide | omega | exact fun z => absurd z.1 (by decide)))) | (intro p hp2; rw [f2 _ _ (by first | decide | omega | exact fun z => absurd z.1 (by decide)) (by first | decide | omega | exact fun z => absurd z.1 (by decide)) (by first | decide | omega | exact fun z => absurd z.1 (by decide))]; exact b1 hp p hp2) | (intro p hp2; rw [f2 _ _ (by first | decide | omega | exact fun z => absurd z.1 (by decide)) (by first | decide | omega | exact fun z => absurd z.1 (by decide)) (by first | decide | omega | exact fun z => absurd z.1 (by decide)), fp_od_o hn o1 p hp2]; exact fp_od_t hn (fun i hi => mv_T hi)) | (intro i hi; rw [f2 _ _ (by first | decide | omega | exact fun z => absurd z.1 (by decide)) (by first | decide | omega | exact fun z => absurd z.1 (by decide)) (by first | decide | omega | exact fun z => absurd z.1 (by decide)), t1 i hi]; exact mv_T (by first | decide | omega | exact fun z => absurd z.1 (by decide))) | (rw [c0]; exact (f2 _ _ (by first | decide | omega | exact fun z => absurd z.1 (by decide)) (by first | decide | omega | exact fun z => absurd z.1 (by decide)) (by first | decide | omega | exact fun z => absurd z.1 (by decide))).trans w1) | (trace_state; fail))
/-! runs kept, runs taken back: exactly -/
theorem x_lo_1 {l : Launch} {ν : am_N} {Q : Option am_V → am_N → Prop} (k : ∀ (v : Int) (o2 : Option am_V) (μ' : am_N), v = 2 → (∀ a b, a ≠ 64 → a ≠ 71 → ¬(a = 77 ∧ b = 0) → μ' a b = ν a b) → (∀ b : Nat, b < 4 → μ' 64 b = ν 65 b ∧ μ' 71 b = ν 72 b) → μ' 77 0 = ν 77 1 → am_AW l 0 (fun _ => 0) 47 Q 2 [some (.inr (.inr 62)), some (.inl v), o2] [] μ') : am_AW l 0 (fun _ => 0) 47 Q 10 [some (.inr (.inr 62)), some (.inl 1), some (.inl 0)] [] ν := by
  have lp10 : ∀ (m : Nat) (i : Int) (μ : am_N) , (∀ a b, a ≠ 64 → a ≠ 71 → μ a b = ν a b) → 0 ≤ i → i ≤ 4 → (∀ b : Nat, (b : Int) < i → μ 64 b = ν 65 b ∧ μ 71 b = ν 72 b) → 4 - i < (m : Int) → am_AW l 0 (fun _ => 0) 47 Q 10 [some (.inr (.inr 62)), some (.inl 1), some (.inl i)] [] μ := by
    intro m
    induction m with
    | zero =>
      intro i μ hv0 hv1 hv2 hv3 hm
      exfalso
      omega
    | succ m ih =>
      intro i μ hv0 hv1 hv2 hv3 hm
      have ci : am_c i = i := am_cR (by omega) (by omega)
      have c4 : am_c 4 = 4 := rfl
      refine am_go (ct := fun pc => Nat.beq pc 10 || Nat.beq pc 2) am_oX4_loseOldest 300 ?_
      conv => whnf
      repeat' first
        | (refine (?_ : am_wp _ _ _ _ _ _ _ _ _ _ _ _); conv => whnf)
        | (refine (?_ : am_sw _ _ _ _); conv => whnf)
        | refine And.intro trivial ?_
        | exact trivial
        | ((with_reducible refine (?_ : ∀ j : Nat, (_ : Option Nat) = some j → _)); refine am_ab1 (a := 64) rfl ?_)
        | ((with_reducible refine (?_ : ∀ j : Nat, (_ : Option Nat) = some j → _)); refine am_ab1 (a := 65) rfl ?_)
        | ((with_reducible refine (?_ : ∀ j : Nat, (_ : Option Nat) = some j → _)); refine am_ab1 (a := 71) rfl ?_)
        | ((with_reducible refine (?_ : ∀ j : Nat, (_ : Option Nat) = some j → _)); refine am_ab1 (a := 72) rfl ?_)
        | refine k _ _ _ ?_ ?_ ?_ ?_
        | ((with_reducible refine (?_ : am_AW _ _ _ _ _ 10 _ _ _)); refine ih _ _ ?_ ?_ ?_ ?_ ?_)
        | refine And.intro (fun h => absurd h (by decide)) (fun _ => ?_)
        | refine And.intro (fun _ => ?_) (fun h => absurd (by decide) h)
        | refine And.intro (fun _ => ?_) (fun _ => ?_)
        | refine And.intro ?_ ?_
      all_goals (first | decide | omega | (simp only [ci, c4] at *; omega) | (intro a b h1 h2; rw [am_upN h2, am_upN h1]; exact hv0 a b h1 h2) | (intro b hb; by_cases d : (b : Int) = i; (rw [am_upN (by decide), am_upS, if_pos ⟨rfl, by rw [ci]; omega⟩, am_upS, if_pos ⟨rfl, by rw [ci]; omega⟩, am_upN (by decide), hv0 _ _ (by decide) (by decide), hv0 _ _ (by decide) (by decide), ci, show i.toNat = b by omega]; exact ⟨rfl, rfl⟩); (rw [am_upN (by decide), am_upM (by rw [ci]; omega), am_upM (by rw [ci]; omega), am_upN (by decide)]; exact hv3 b (by omega))) | (intro a b h1 h2 h3; exact Eq.trans (am_uE (fun z => h3 ⟨z.1, z.2⟩)) (hv0 a b h1 h2)) | (intro b hb; rw [am_upN (by decide), am_upN (by decide)]; exact hv3 b (by simp only [ci, c4] at *; omega)) | (rw [am_upS, if_pos ⟨rfl, rfl⟩]; exact hv0 _ _ (by decide) (by decide)) | (trace_state; fail))
  have lp10' : ∀ (i : Int) (μ : am_N) , (∀ a b, a ≠ 64 → a ≠ 71 → μ a b = ν a b) → 0 ≤ i → i ≤ 4 → (∀ b : Nat, (b : Int) < i → μ 64 b = ν 65 b ∧ μ 71 b = ν 72 b) → am_AW l 0 (fun _ => 0) 47 Q 10 [some (.inr (.inr 62)), some (.inl 1), some (.inl i)] [] μ := fun i μ hv0 hv1 hv2 hv3 => lp10 ((4 - i) + 1).toNat i μ hv0 hv1 hv2 hv3 (by omega)
  exact lp10' 0 ν (fun _ _ _ _ => rfl) (by decide) (by decide) (fun b hb => by omega)
theorem x_lo_2 {l : Launch} {ν : am_N} {Q : Option am_V → am_N → Prop} (k : ∀ (v : Int) (o2 : Option am_V) (μ' : am_N), v = 3 → (∀ a b, a ≠ 65 → a ≠ 72 → ¬(a = 77 ∧ b = 1) → μ' a b = ν a b) → (∀ b : Nat, b < 4 → μ' 65 b = ν 66 b ∧ μ' 72 b = ν 73 b) → μ' 77 1 = ν 77 2 → am_AW l 0 (fun _ => 0) 47 Q 2 [some (.inr (.inr 62)), some (.inl v), o2] [] μ') : am_AW l 0 (fun _ => 0) 47 Q 10 [some (.inr (.inr 62)), some (.inl 2), some (.inl 0)] [] ν := by
  have lp10 : ∀ (m : Nat) (i : Int) (μ : am_N) , (∀ a b, a ≠ 65 → a ≠ 72 → μ a b = ν a b) → 0 ≤ i → i ≤ 4 → (∀ b : Nat, (b : Int) < i → μ 65 b = ν 66 b ∧ μ 72 b = ν 73 b) → 4 - i < (m : Int) → am_AW l 0 (fun _ => 0) 47 Q 10 [some (.inr (.inr 62)), some (.inl 2), some (.inl i)] [] μ := by
    intro m
    induction m with
    | zero =>
      intro i μ hv0 hv1 hv2 hv3 hm
      exfalso
      omega
    | succ m ih =>
      intro i μ hv0 hv1 hv2 hv3 hm
      have ci : am_c i = i := am_cR (by omega) (by omega)
      have c4 : am_c 4 = 4 := rfl
      refine am_go (ct := fun pc => Nat.beq pc 10 || Nat.beq pc 2) am_oX4_loseOldest 300 ?_
      conv => whnf
      repeat' first
        | (refine (?_ : am_wp _ _ _ _ _ _ _ _ _ _ _ _); conv => whnf)
        | (refine (?_ : am_sw _ _ _ _); conv => whnf)
        | refine And.intro trivial ?_
        | exact trivial
        | ((with_reducible refine (?_ : ∀ j : Nat, (_ : Option Nat) = some j → _)); refine am_ab1 (a := 65) rfl ?_)
        | ((with_reducible refine (?_ : ∀ j : Nat, (_ : Option Nat) = some j → _)); refine am_ab1 (a := 66) rfl ?_)
        | ((with_reducible refine (?_ : ∀ j : Nat, (_ : Option Nat) = some j → _)); refine am_ab1 (a := 72) rfl ?_)
        | ((with_reducible refine (?_ : ∀ j : Nat, (_ : Option Nat) = some j → _)); refine am_ab1 (a := 73) rfl ?_)
        | refine k _ _ _ ?_ ?_ ?_ ?_
        | ((with_reducible refine (?_ : am_AW _ _ _ _ _ 10 _ _ _)); refine ih _ _ ?_ ?_ ?_ ?_ ?_)
        | refine And.intro (fun h => absurd h (by decide)) (fun _ => ?_)
        | refine And.intro (fun _ => ?_) (fun h => absurd (by decide) h)
        | refine And.intro (fun _ => ?_) (fun _ => ?_)
        | refine And.intro ?_ ?_
      all_goals (first | decide | omega | (simp only [ci, c4] at *; omega) | (intro a b h1 h2; rw [am_upN h2, am_upN h1]; exact hv0 a b h1 h2) | (intro b hb; by_cases d : (b : Int) = i; (rw [am_upN (by decide), am_upS, if_pos ⟨rfl, by rw [ci]; omega⟩, am_upS, if_pos ⟨rfl, by rw [ci]; omega⟩, am_upN (by decide), hv0 _ _ (by decide) (by decide), hv0 _ _ (by decide) (by decide), ci, show i.toNat = b by omega]; exact ⟨rfl, rfl⟩); (rw [am_upN (by decide), am_upM (by rw [ci]; omega), am_upM (by rw [ci]; omega), am_upN (by decide)]; exact hv3 b (by omega))) | (intro a b h1 h2 h3; exact Eq.trans (am_uE (fun z => h3 ⟨z.1, z.2⟩)) (hv0 a b h1 h2)) | (intro b hb; rw [am_upN (by decide), am_upN (by decide)]; exact hv3 b (by simp only [ci, c4] at *; omega)) | (rw [am_upS, if_pos ⟨rfl, rfl⟩]; exact hv0 _ _ (by decide) (by decide)) | (trace_state; fail))
  have lp10' : ∀ (i : Int) (μ : am_N) , (∀ a b, a ≠ 65 → a ≠ 72 → μ a b = ν a b) → 0 ≤ i → i ≤ 4 → (∀ b : Nat, (b : Int) < i → μ 65 b = ν 66 b ∧ μ 72 b = ν 73 b) → am_AW l 0 (fun _ => 0) 47 Q 10 [some (.inr (.inr 62)), some (.inl 2), some (.inl i)] [] μ := fun i μ hv0 hv1 hv2 hv3 => lp10 ((4 - i) + 1).toNat i μ hv0 hv1 hv2 hv3 (by omega)
  exact lp10' 0 ν (fun _ _ _ _ => rfl) (by decide) (by decide) (fun b hb => by omega)
theorem x_lo_3 {l : Launch} {ν : am_N} {Q : Option am_V → am_N → Prop} (k : ∀ (v : Int) (o2 : Option am_V) (μ' : am_N), v = 4 → (∀ a b, a ≠ 66 → a ≠ 73 → ¬(a = 77 ∧ b = 2) → μ' a b = ν a b) → (∀ b : Nat, b < 4 → μ' 66 b = ν 67 b ∧ μ' 73 b = ν 74 b) → μ' 77 2 = ν 77 3 → am_AW l 0 (fun _ => 0) 47 Q 2 [some (.inr (.inr 62)), some (.inl v), o2] [] μ') : am_AW l 0 (fun _ => 0) 47 Q 10 [some (.inr (.inr 62)), some (.inl 3), some (.inl 0)] [] ν := by
  have lp10 : ∀ (m : Nat) (i : Int) (μ : am_N) , (∀ a b, a ≠ 66 → a ≠ 73 → μ a b = ν a b) → 0 ≤ i → i ≤ 4 → (∀ b : Nat, (b : Int) < i → μ 66 b = ν 67 b ∧ μ 73 b = ν 74 b) → 4 - i < (m : Int) → am_AW l 0 (fun _ => 0) 47 Q 10 [some (.inr (.inr 62)), some (.inl 3), some (.inl i)] [] μ := by
    intro m
    induction m with
    | zero =>
      intro i μ hv0 hv1 hv2 hv3 hm
      exfalso
      omega
    | succ m ih =>
      intro i μ hv0 hv1 hv2 hv3 hm
      have ci : am_c i = i := am_cR (by omega) (by omega)
      have c4 : am_c 4 = 4 := rfl
      refine am_go (ct := fun pc => Nat.beq pc 10 || Nat.beq pc 2) am_oX4_loseOldest 300 ?_
      conv => whnf
      repeat' first
        | (refine (?_ : am_wp _ _ _ _ _ _ _ _ _ _ _ _); conv => whnf)
        | (refine (?_ : am_sw _ _ _ _); conv => whnf)
        | refine And.intro trivial ?_
        | exact trivial
        | ((with_reducible refine (?_ : ∀ j : Nat, (_ : Option Nat) = some j → _)); refine am_ab1 (a := 66) rfl ?_)
        | ((with_reducible refine (?_ : ∀ j : Nat, (_ : Option Nat) = some j → _)); refine am_ab1 (a := 67) rfl ?_)
        | ((with_reducible refine (?_ : ∀ j : Nat, (_ : Option Nat) = some j → _)); refine am_ab1 (a := 73) rfl ?_)
        | ((with_reducible refine (?_ : ∀ j : Nat, (_ : Option Nat) = some j → _)); refine am_ab1 (a := 74) rfl ?_)
        | refine k _ _ _ ?_ ?_ ?_ ?_
        | ((with_reducible refine (?_ : am_AW _ _ _ _ _ 10 _ _ _)); refine ih _ _ ?_ ?_ ?_ ?_ ?_)
        | refine And.intro (fun h => absurd h (by decide)) (fun _ => ?_)
        | refine And.intro (fun _ => ?_) (fun h => absurd (by decide) h)
        | refine And.intro (fun _ => ?_) (fun _ => ?_)
        | refine And.intro ?_ ?_
      all_goals (first | decide | omega | (simp only [ci, c4] at *; omega) | (intro a b h1 h2; rw [am_upN h2, am_upN h1]; exact hv0 a b h1 h2) | (intro b hb; by_cases d : (b : Int) = i; (rw [am_upN (by decide), am_upS, if_pos ⟨rfl, by rw [ci]; omega⟩, am_upS, if_pos ⟨rfl, by rw [ci]; omega⟩, am_upN (by decide), hv0 _ _ (by decide) (by decide), hv0 _ _ (by decide) (by decide), ci, show i.toNat = b by omega]; exact ⟨rfl, rfl⟩); (rw [am_upN (by decide), am_upM (by rw [ci]; omega), am_upM (by rw [ci]; omega), am_upN (by decide)]; exact hv3 b (by omega))) | (intro a b h1 h2 h3; exact Eq.trans (am_uE (fun z => h3 ⟨z.1, z.2⟩)) (hv0 a b h1 h2)) | (intro b hb; rw [am_upN (by decide), am_upN (by decide)]; exact hv3 b (by simp only [ci, c4] at *; omega)) | (rw [am_upS, if_pos ⟨rfl, rfl⟩]; exact hv0 _ _ (by decide) (by decide)) | (trace_state; fail))
  have lp10' : ∀ (i : Int) (μ : am_N) , (∀ a b, a ≠ 66 → a ≠ 73 → μ a b = ν a b) → 0 ≤ i → i ≤ 4 → (∀ b : Nat, (b : Int) < i → μ 66 b = ν 67 b ∧ μ 73 b = ν 74 b) → am_AW l 0 (fun _ => 0) 47 Q 10 [some (.inr (.inr 62)), some (.inl 3), some (.inl i)] [] μ := fun i μ hv0 hv1 hv2 hv3 => lp10 ((4 - i) + 1).toNat i μ hv0 hv1 hv2 hv3 (by omega)
  exact lp10' 0 ν (fun _ _ _ _ => rfl) (by decide) (by decide) (fun b hb => by omega)
theorem x_lo_4 {l : Launch} {ν : am_N} {Q : Option am_V → am_N → Prop} (k : ∀ (v : Int) (o2 : Option am_V) (μ' : am_N), v = 5 → (∀ a b, a ≠ 67 → a ≠ 74 → ¬(a = 77 ∧ b = 3) → μ' a b = ν a b) → (∀ b : Nat, b < 4 → μ' 67 b = ν 68 b ∧ μ' 74 b = ν 75 b) → μ' 77 3 = ν 77 4 → am_AW l 0 (fun _ => 0) 47 Q 2 [some (.inr (.inr 62)), some (.inl v), o2] [] μ') : am_AW l 0 (fun _ => 0) 47 Q 10 [some (.inr (.inr 62)), some (.inl 4), some (.inl 0)] [] ν := by
  have lp10 : ∀ (m : Nat) (i : Int) (μ : am_N) , (∀ a b, a ≠ 67 → a ≠ 74 → μ a b = ν a b) → 0 ≤ i → i ≤ 4 → (∀ b : Nat, (b : Int) < i → μ 67 b = ν 68 b ∧ μ 74 b = ν 75 b) → 4 - i < (m : Int) → am_AW l 0 (fun _ => 0) 47 Q 10 [some (.inr (.inr 62)), some (.inl 4), some (.inl i)] [] μ := by
    intro m
    induction m with
    | zero =>
      intro i μ hv0 hv1 hv2 hv3 hm
      exfalso
      omega
    | succ m ih =>
      intro i μ hv0 hv1 hv2 hv3 hm
      have ci : am_c i = i := am_cR (by omega) (by omega)
      have c4 : am_c 4 = 4 := rfl
      refine am_go (ct := fun pc => Nat.beq pc 10 || Nat.beq pc 2) am_oX4_loseOldest 300 ?_
      conv => whnf
      repeat' first
        | (refine (?_ : am_wp _ _ _ _ _ _ _ _ _ _ _ _); conv => whnf)
        | (refine (?_ : am_sw _ _ _ _); conv => whnf)
        | refine And.intro trivial ?_
        | exact trivial
        | ((with_reducible refine (?_ : ∀ j : Nat, (_ : Option Nat) = some j → _)); refine am_ab1 (a := 67) rfl ?_)
        | ((with_reducible refine (?_ : ∀ j : Nat, (_ : Option Nat) = some j → _)); refine am_ab1 (a := 68) rfl ?_)
        | ((with_reducible refine (?_ : ∀ j : Nat, (_ : Option Nat) = some j → _)); refine am_ab1 (a := 74) rfl ?_)
        | ((with_reducible refine (?_ : ∀ j : Nat, (_ : Option Nat) = some j → _)); refine am_ab1 (a := 75) rfl ?_)
        | refine k _ _ _ ?_ ?_ ?_ ?_
        | ((with_reducible refine (?_ : am_AW _ _ _ _ _ 10 _ _ _)); refine ih _ _ ?_ ?_ ?_ ?_ ?_)
        | refine And.intro (fun h => absurd h (by decide)) (fun _ => ?_)
        | refine And.intro (fun _ => ?_) (fun h => absurd (by decide) h)
        | refine And.intro (fun _ => ?_) (fun _ => ?_)
        | refine And.intro ?_ ?_
      all_goals (first | decide | omega | (simp only [ci, c4] at *; omega) | (intro a b h1 h2; rw [am_upN h2, am_upN h1]; exact hv0 a b h1 h2) | (intro b hb; by_cases d : (b : Int) = i; (rw [am_upN (by decide), am_upS, if_pos ⟨rfl, by rw [ci]; omega⟩, am_upS, if_pos ⟨rfl, by rw [ci]; omega⟩, am_upN (by decide), hv0 _ _ (by decide) (by decide), hv0 _ _ (by decide) (by decide), ci, show i.toNat = b by omega]; exact ⟨rfl, rfl⟩); (rw [am_upN (by decide), am_upM (by rw [ci]; omega), am_upM (by rw [ci]; omega), am_upN (by decide)]; exact hv3 b (by omega))) | (intro a b h1 h2 h3; exact Eq.trans (am_uE (fun z => h3 ⟨z.1, z.2⟩)) (hv0 a b h1 h2)) | (intro b hb; rw [am_upN (by decide), am_upN (by decide)]; exact hv3 b (by simp only [ci, c4] at *; omega)) | (rw [am_upS, if_pos ⟨rfl, rfl⟩]; exact hv0 _ _ (by decide) (by decide)) | (trace_state; fail))
  have lp10' : ∀ (i : Int) (μ : am_N) , (∀ a b, a ≠ 67 → a ≠ 74 → μ a b = ν a b) → 0 ≤ i → i ≤ 4 → (∀ b : Nat, (b : Int) < i → μ 67 b = ν 68 b ∧ μ 74 b = ν 75 b) → am_AW l 0 (fun _ => 0) 47 Q 10 [some (.inr (.inr 62)), some (.inl 4), some (.inl i)] [] μ := fun i μ hv0 hv1 hv2 hv3 => lp10 ((4 - i) + 1).toNat i μ hv0 hv1 hv2 hv3 (by omega)
  exact lp10' 0 ν (fun _ _ _ _ => rfl) (by decide) (by decide) (fun b hb => by omega)
theorem x_lo_5 {l : Launch} {ν : am_N} {Q : Option am_V → am_N → Prop} (k : ∀ (v : Int) (o2 : Option am_V) (μ' : am_N), v = 6 → (∀ a b, a ≠ 68 → a ≠ 75 → ¬(a = 77 ∧ b = 4) → μ' a b = ν a b) → (∀ b : Nat, b < 4 → μ' 68 b = ν 69 b ∧ μ' 75 b = ν 76 b) → μ' 77 4 = ν 77 5 → am_AW l 0 (fun _ => 0) 47 Q 2 [some (.inr (.inr 62)), some (.inl v), o2] [] μ') : am_AW l 0 (fun _ => 0) 47 Q 10 [some (.inr (.inr 62)), some (.inl 5), some (.inl 0)] [] ν := by
  have lp10 : ∀ (m : Nat) (i : Int) (μ : am_N) , (∀ a b, a ≠ 68 → a ≠ 75 → μ a b = ν a b) → 0 ≤ i → i ≤ 4 → (∀ b : Nat, (b : Int) < i → μ 68 b = ν 69 b ∧ μ 75 b = ν 76 b) → 4 - i < (m : Int) → am_AW l 0 (fun _ => 0) 47 Q 10 [some (.inr (.inr 62)), some (.inl 5), some (.inl i)] [] μ := by
    intro m
    induction m with
    | zero =>
      intro i μ hv0 hv1 hv2 hv3 hm
      exfalso
      omega
    | succ m ih =>
      intro i μ hv0 hv1 hv2 hv3 hm
      have ci : am_c i = i := am_cR (by omega) (by omega)
      have c4 : am_c 4 = 4 := rfl
      refine am_go (ct := fun pc => Nat.beq pc 10 || Nat.beq pc 2) am_oX4_loseOldest 300 ?_
      conv => whnf
      repeat' first
        | (refine (?_ : am_wp _ _ _ _ _ _ _ _ _ _ _ _); conv => whnf)
        | (refine (?_ : am_sw _ _ _ _); conv => whnf)
        | refine And.intro trivial ?_
        | exact trivial
        | ((with_reducible refine (?_ : ∀ j : Nat, (_ : Option Nat) = some j → _)); refine am_ab1 (a := 68) rfl ?_)
        | ((with_reducible refine (?_ : ∀ j : Nat, (_ : Option Nat) = some j → _)); refine am_ab1 (a := 69) rfl ?_)
        | ((with_reducible refine (?_ : ∀ j : Nat, (_ : Option Nat) = some j → _)); refine am_ab1 (a := 75) rfl ?_)
        | ((with_reducible refine (?_ : ∀ j : Nat, (_ : Option Nat) = some j → _)); refine am_ab1 (a := 76) rfl ?_)
        | refine k _ _ _ ?_ ?_ ?_ ?_
        | ((with_reducible refine (?_ : am_AW _ _ _ _ _ 10 _ _ _)); refine ih _ _ ?_ ?_ ?_ ?_ ?_)
        | refine And.intro (fun h => absurd h (by decide)) (fun _ => ?_)
        | refine And.intro (fun _ => ?_) (fun h => absurd (by decide) h)
        | refine And.intro (fun _ => ?_) (fun _ => ?_)
        | refine And.intro ?_ ?_
      all_goals (first | decide | omega | (simp only [ci, c4] at *; omega) | (intro a b h1 h2; rw [am_upN h2, am_upN h1]; exact hv0 a b h1 h2) | (intro b hb; by_cases d : (b : Int) = i; (rw [am_upN (by decide), am_upS, if_pos ⟨rfl, by rw [ci]; omega⟩, am_upS, if_pos ⟨rfl, by rw [ci]; omega⟩, am_upN (by decide), hv0 _ _ (by decide) (by decide), hv0 _ _ (by decide) (by decide), ci, show i.toNat = b by omega]; exact ⟨rfl, rfl⟩); (rw [am_upN (by decide), am_upM (by rw [ci]; omega), am_upM (by rw [ci]; omega), am_upN (by decide)]; exact hv3 b (by omega))) | (intro a b h1 h2 h3; exact Eq.trans (am_uE (fun z => h3 ⟨z.1, z.2⟩)) (hv0 a b h1 h2)) | (intro b hb; rw [am_upN (by decide), am_upN (by decide)]; exact hv3 b (by simp only [ci, c4] at *; omega)) | (rw [am_upS, if_pos ⟨rfl, rfl⟩]; exact hv0 _ _ (by decide) (by decide)) | (trace_state; fail))
  have lp10' : ∀ (i : Int) (μ : am_N) , (∀ a b, a ≠ 68 → a ≠ 75 → μ a b = ν a b) → 0 ≤ i → i ≤ 4 → (∀ b : Nat, (b : Int) < i → μ 68 b = ν 69 b ∧ μ 75 b = ν 76 b) → am_AW l 0 (fun _ => 0) 47 Q 10 [some (.inr (.inr 62)), some (.inl 5), some (.inl i)] [] μ := fun i μ hv0 hv1 hv2 hv3 => lp10 ((4 - i) + 1).toNat i μ hv0 hv1 hv2 hv3 (by omega)
  exact lp10' 0 ν (fun _ _ _ _ => rfl) (by decide) (by decide) (fun b hb => by omega)
theorem x_lose {l : Launch} {ν : am_N} {Q : Option am_V → am_N → Prop} (k : ∀ μ' : am_N, (∀ a b, (a < 62 ∨ 77 < a) → μ' a b = ν a b) → μ' 62 3 = 5 → (∀ j : Nat, j < 5 → (∀ r : Nat, r < 4 → μ' (64 + j) r = ν (65 + j) r ∧ μ' (71 + j) r = ν (72 + j) r) ∧ μ' 77 j = ν 77 (j + 1)) → Q none μ') : am_Does l 47 [.inr (.inr 62)] ν Q := by
  refine am_Does_of (Nat.le_of_ble_eq_true rfl) (Nat.le_of_ble_eq_true rfl) (Nat.le_of_ble_eq_true rfl) ?_
  refine am_go (ct := fun pc => Nat.beq pc 10) am_oX4_loseOldest 60 ?_
  conv => whnf
  repeat' first
    | (refine (?_ : am_wp _ _ _ _ _ _ _ _ _ _ _ _); conv => whnf)
    | (refine (?_ : am_sw _ _ _ _); conv => whnf)
    | refine And.intro trivial ?_
    | exact trivial
    | (refine x_lo_1 (fun v1 o1 μ1 e1 f1 a1 c1 => ?_); subst e1; refine am_go (ct := fun pc => Nat.beq pc 10) am_oX4_loseOldest 60 ?_; conv => whnf)
    | (refine x_lo_2 (fun v2 o2 μ2 e2 f2 a2 c2 => ?_); subst e2; refine am_go (ct := fun pc => Nat.beq pc 10) am_oX4_loseOldest 60 ?_; conv => whnf)
    | (refine x_lo_3 (fun v3 o3 μ3 e3 f3 a3 c3 => ?_); subst e3; refine am_go (ct := fun pc => Nat.beq pc 10) am_oX4_loseOldest 60 ?_; conv => whnf)
    | (refine x_lo_4 (fun v4 o4 μ4 e4 f4 a4 c4 => ?_); subst e4; refine am_go (ct := fun pc => Nat.beq pc 10) am_oX4_loseOldest 60 ?_; conv => whnf)
    | (refine x_lo_5 (fun v5 o5 μ5 e5 f5 a5 c5 => ?_); subst e5; refine am_go (ct := fun pc => Nat.beq pc 10) am_oX4_loseOldest 60 ?_; conv => whnf)
    | refine k _ ?_ ?_ ?_
    | refine And.intro (fun h => absurd h (by decide)) (fun _ => ?_)
    | refine And.intro (fun _ => ?_) (fun h => absurd (by decide) h)
    | refine And.intro (fun _ => ?_) (fun _ => ?_)
    | refine And.intro ?_ ?_
  all_goals (first | decide | rfl | (intro a b h; rw [am_upN (by omega), f5 a b (by omega) (by omega) (by omega), f4 a b (by omega) (by omega) (by omega), f3 a b (by omega) (by omega) (by omega), f2 a b (by omega) (by omega) (by omega), f1 a b (by omega) (by omega) (by omega)]) | (intro j hj; rcases (show j = 0 ∨ j = 1 ∨ j = 2 ∨ j = 3 ∨ j = 4 by omega) with rfl | rfl | rfl | rfl | rfl; (refine ⟨fun r hr => ⟨?_, ?_⟩, ?_⟩; (show am_up μ5 62 3 5 64 r = ν 65 r; rw [am_upN (by decide)]; (rw [f5 _ _ (by first | decide | omega | exact fun z => absurd z.1 (by decide)) (by first | decide | omega | exact fun z => absurd z.1 (by decide)) (by first | decide | omega | exact fun z => absurd z.1 (by decide))]; rw [f4 _ _ (by first | decide | omega | exact fun z => absurd z.1 (by decide)) (by first | decide | omega | exact fun z => absurd z.1 (by decide)) (by first | decide | omega | exact fun z => absurd z.1 (by decide))]; rw [f3 _ _ (by first | decide | omega | exact fun z => absurd z.1 (by decide)) (by first | decide | omega | exact fun z => absurd z.1 (by decide)) (by first | decide | omega | exact fun z => absurd z.1 (by decide))]; rw [f2 _ _ (by first | decide | omega | exact fun z => absurd z.1 (by decide)) (by first | decide | omega | exact fun z => absurd z.1 (by decide)) (by first | decide | omega | exact fun z => absurd z.1 (by decide))]; exact (a1 r hr).1)); (show am_up μ5 62 3 5 71 r = ν 72 r; rw [am_upN (by decide)]; (rw [f5 _ _ (by first | decide | omega | exact fun z => absurd z.1 (by decide)) (by first | decide | omega | exact fun z => absurd z.1 (by decide)) (by first | decide | omega | exact fun z => absurd z.1 (by decide))]; rw [f4 _ _ (by first | decide | omega | exact fun z => absurd z.1 (by decide)) (by first | decide | omega | exact fun z => absurd z.1 (by decide)) (by first | decide | omega | exact fun z => absurd z.1 (by decide))]; rw [f3 _ _ (by first | decide | omega | exact fun z => absurd z.1 (by decide)) (by first | decide | omega | exact fun z => absurd z.1 (by decide)) (by first | decide | omega | exact fun z => absurd z.1 (by decide))]; rw [f2 _ _ (by first | decide | omega | exact fun z => absurd z.1 (by decide)) (by first | decide | omega | exact fun z => absurd z.1 (by decide)) (by first | decide | omega | exact fun z => absurd z.1 (by decide))]; exact (a1 r hr).2)); (show am_up μ5 62 3 5 77 0 = ν 77 1; rw [am_upN (by decide)]; (rw [f5 _ _ (by first | decide | omega | exact fun z => absurd z.1 (by decide)) (by first | decide | omega | exact fun z => absurd z.1 (by decide)) (by first | decide | omega | exact fun z => absurd z.1 (by decide))]; rw [f4 _ _ (by first | decide | omega | exact fun z => absurd z.1 (by decide)) (by first | decide | omega | exact fun z => absurd z.1 (by decide)) (by first | decide | omega | exact fun z => absurd z.1 (by decide))]; rw [f3 _ _ (by first | decide | omega | exact fun z => absurd z.1 (by decide)) (by first | decide | omega | exact fun z => absurd z.1 (by decide)) (by first | decide | omega | exact fun z => absurd z.1 (by decide))]; rw [f2 _ _ (by first | decide | omega | exact fun z => absurd z.1 (by decide)) (by first | decide | omega | exact fun z => absurd z.1 (by decide)) (by first | decide | omega | exact fun z => absurd z.1 (by decide))]; exact c1))); (refine ⟨fun r hr => ⟨?_, ?_⟩, ?_⟩; (show am_up μ5 62 3 5 65 r = ν 66 r; rw [am_upN (by decide)]; (rw [f5 _ _ (by first | decide | omega | exact fun z => absurd z.1 (by decide)) (by first | decide | omega | exact fun z => absurd z.1 (by decide)) (by first | decide | omega | exact fun z => absurd z.1 (by decide))]; rw [f4 _ _ (by first | decide | omega | exact fun z => absurd z.1 (by decide)) (by first | decide | omega | exact fun z => absurd z.1 (by decide)) (by first | decide | omega | exact fun z => absurd z.1 (by decide))]; rw [f3 _ _ (by first | decide | omega | exact fun z => absurd z.1 (by decide)) (by first | decide | omega | exact fun z => absurd z.1 (by decide)) (by first | decide | omega | exact fun z => absurd z.1 (by decide))]; rw [(a2 r hr).1]; rw [f1 _ _ (by first | decide | omega | exact fun z => absurd z.1 (by decide)) (by first | decide | omega | exact fun z => absurd z.1 (by decide)) (by first | decide | omega | exact fun z => absurd z.1 (by decide))]; skip)); (show am_up μ5 62 3 5 72 r = ν 73 r; rw [am_upN (by decide)]; (rw [f5 _ _ (by first | decide | omega | exact fun z => absurd z.1 (by decide)) (by first | decide | omega | exact fun z => absurd z.1 (by decide)) (by first | decide | omega | exact fun z => absurd z.1 (by decide))]; rw [f4 _ _ (by first | decide | omega | exact fun z => absurd z.1 (by decide)) (by first | decide | omega | exact fun z => absurd z.1 (by decide)) (by first | decide | omega | exact fun z => absurd z.1 (by decide))]; rw [f3 _ _ (by first | decide | omega | exact fun z => absurd z.1 (by decide)) (by first | decide | omega | exact fun z => absurd z.1 (by decide)) (by first | decide | omega | exact fun z => absurd z.1 (by decide))]; rw [(a2 r hr).2]; rw [f1 _ _ (by first | decide | omega | exact fun z => absurd z.1 (by decide)) (by first | decide | omega | exact fun z => absurd z.1 (by decide)) (by first | decide | omega | exact fun z => absurd z.1 (by decide))]; skip)); (show am_up μ5 62 3 5 77 1 = ν 77 2; rw [am_upN (by decide)]; (rw [f5 _ _ (by first | decide | omega | exact fun z => absurd z.1 (by decide)) (by first | decide | omega | exact fun z => absurd z.1 (by decide)) (by first | decide | omega | exact fun z => absurd z.1 (by decide))]; rw [f4 _ _ (by first | decide | omega | exact fun z => absurd z.1 (by decide)) (by first | decide | omega | exact fun z => absurd z.1 (by decide)) (by first | decide | omega | exact fun z => absurd z.1 (by decide))]; rw [f3 _ _ (by first | decide | omega | exact fun z => absurd z.1 (by decide)) (by first | decide | omega | exact fun z => absurd z.1 (by decide)) (by first | decide | omega | exact fun z => absurd z.1 (by decide))]; rw [c2]; rw [f1 _ _ (by first | decide | omega | exact fun z => absurd z.1 (by decide)) (by first | decide | omega | exact fun z => absurd z.1 (by decide)) (by first | decide | omega | exact fun z => absurd z.1 (by decide))]; skip))); (refine ⟨fun r hr => ⟨?_, ?_⟩, ?_⟩; (show am_up μ5 62 3 5 66 r = ν 67 r; rw [am_upN (by decide)]; (rw [f5 _ _ (by first | decide | omega | exact fun z => absurd z.1 (by decide)) (by first | decide | omega | exact fun z => absurd z.1 (by decide)) (by first | decide | omega | exact fun z => absurd z.1 (by decide))]; rw [f4 _ _ (by first | decide | omega | exact fun z => absurd z.1 (by decide)) (by first | decide | omega | exact fun z => absurd z.1 (by decide)) (by first | decide | omega | exact fun z => absurd z.1 (by decide))]; rw [(a3 r hr).1]; rw [f2 _ _ (by first | decide | omega | exact fun z => absurd z.1 (by decide)) (by first | decide | omega | exact fun z => absurd z.1 (by decide)) (by first | decide | omega | exact fun z => absurd z.1 (by decide))]; rw [f1 _ _ (by first | decide | omega | exact fun z => absurd z.1 (by decide)) (by first | decide | omega | exact fun z => absurd z.1 (by decide)) (by first | decide | omega | exact fun z => absurd z.1 (by decide))]; skip)); (show am_up μ5 62 3 5 73 r = ν 74 r; rw [am_upN (by decide)]; (rw [f5 _ _ (by first | decide | omega | exact fun z => absurd z.1 (by decide)) (by first | decide | omega | exact fun z => absurd z.1 (by decide)) (by first | decide | omega | exact fun z => absurd z.1 (by decide))]; rw [f4 _ _ (by first | decide | omega | exact fun z => absurd z.1 (by decide)) (by first | decide | omega | exact fun z => absurd z.1 (by decide)) (by first | decide | omega | exact fun z => absurd z.1 (by decide))]; rw [(a3 r hr).2]; rw [f2 _ _ (by first | decide | omega | exact fun z => absurd z.1 (by decide)) (by first | decide | omega | exact fun z => absurd z.1 (by decide)) (by first | decide | omega | exact fun z => absurd z.1 (by decide))]; rw [f1 _ _ (by first | decide | omega | exact fun z => absurd z.1 (by decide)) (by first | decide | omega | exact fun z => absurd z.1 (by decide)) (by first | decide | omega | exact fun z => absurd z.1 (by decide))]; skip)); (show am_up μ5 62 3 5 77 2 = ν 77 3; rw [am_upN (by decide)]; (rw [f5 _ _ (by first | decide | omega | exact fun z => absurd z.1 (by decide)) (by first | decide | omega | exact fun z => absurd z.1 (by decide)) (by first | decide | omega | exact fun z => absurd z.1 (by decide))]; rw [f4 _ _ (by first | decide | omega | exact fun z => absurd z.1 (by decide)) (by first | decide | omega | exact fun z => absurd z.1 (by decide)) (by first | decide | omega | exact fun z => absurd z.1 (by decide))]; rw [c3]; rw [f2 _ _ (by first | decide | omega | exact fun z => absurd z.1 (by decide)) (by first | decide | omega | exact fun z => absurd z.1 (by decide)) (by first | decide | omega | exact fun z => absurd z.1 (by decide))]; rw [f1 _ _ (by first | decide | omega | exact fun z => absurd z.1 (by decide)) (by first | decide | omega | exact fun z => absurd z.1 (by decide)) (by first | decide | omega | exact fun z => absurd z.1 (by decide))]; skip))); (refine ⟨fun r hr => ⟨?_, ?_⟩, ?_⟩; (show am_up μ5 62 3 5 67 r = ν 68 r; rw [am_upN (by decide)]; (rw [f5 _ _ (by first | decide | omega | exact fun z => absurd z.1 (by decide)) (by first | decide | omega | exact fun z => absurd z.1 (by decide)) (by first | decide | omega | exact fun z => absurd z.1 (by decide))]; rw [(a4 r hr).1]; rw [f3 _ _ (by first | decide | omega | exact fun z => absurd z.1 (by decide)) (by first | decide | omega | exact fun z => absurd z.1 (by decide)) (by first | decide | omega | exact fun z => absurd z.1 (by decide))]; rw [f2 _ _ (by first | decide | omega | exact fun z => absurd z.1 (by decide)) (by first | decide | omega | exact fun z => absurd z.1 (by decide)) (by first | decide | omega | exact fun z => absurd z.1 (by decide))]; rw [f1 _ _ (by first | decide | omega | exact fun z => absurd z.1 (by decide)) (by first | decide | omega | exact fun z => absurd z.1 (by decide)) (by first | decide | omega | exact fun z => absurd z.1 (by decide))]; skip)); (show am_up μ5 62 3 5 74 r = ν 75 r; rw [am_upN (by decide)]; (rw [f5 _ _ (by first | decide | omega | exact fun z => absurd z.1 (by decide)) (by first | decide | omega | exact fun z => absurd z.1 (by decide)) (by first | decide | omega | exact fun z => absurd z.1 (by decide))]; rw [(a4 r hr).2]; rw [f3 _ _ (by first | decide | omega | exact fun z => absurd z.1 (by decide)) (by first | decide | omega | exact fun z => absurd z.1 (by decide)) (by first | decide | omega | exact fun z => absurd z.1 (by decide))]; rw [f2 _ _ (by first | decide | omega | exact fun z => absurd z.1 (by decide)) (by first | decide | omega | exact fun z => absurd z.1 (by decide)) (by first | decide | omega | exact fun z => absurd z.1 (by decide))]; rw [f1 _ _ (by first | decide | omega | exact fun z => absurd z.1 (by decide)) (by first | decide | omega | exact fun z => absurd z.1 (by decide)) (by first | decide | omega | exact fun z => absurd z.1 (by decide))]; skip)); (show am_up μ5 62 3 5 77 3 = ν 77 4; rw [am_upN (by decide)]; (rw [f5 _ _ (by first | decide | omega | exact fun z => absurd z.1 (by decide)) (by first | decide | omega | exact fun z => absurd z.1 (by decide)) (by first | decide | omega | exact fun z => absurd z.1 (by decide))]; rw [c4]; rw [f3 _ _ (by first | decide | omega | exact fun z => absurd z.1 (by decide)) (by first | decide | omega | exact fun z => absurd z.1 (by decide)) (by first | decide | omega | exact fun z => absurd z.1 (by decide))]; rw [f2 _ _ (by first | decide | omega | exact fun z => absurd z.1 (by decide)) (by first | decide | omega | exact fun z => absurd z.1 (by decide)) (by first | decide | omega | exact fun z => absurd z.1 (by decide))]; rw [f1 _ _ (by first | decide | omega | exact fun z => absurd z.1 (by decide)) (by first | decide | omega | exact fun z => absurd z.1 (by decide)) (by first | decide | omega | exact fun z => absurd z.1 (by decide))]; skip))); (refine ⟨fun r hr => ⟨?_, ?_⟩, ?_⟩; (show am_up μ5 62 3 5 68 r = ν 69 r; rw [am_upN (by decide)]; ( rw [(a5 r hr).1]; rw [f4 _ _ (by first | decide | omega | exact fun z => absurd z.1 (by decide)) (by first | decide | omega | exact fun z => absurd z.1 (by decide)) (by first | decide | omega | exact fun z => absurd z.1 (by decide))]; rw [f3 _ _ (by first | decide | omega | exact fun z => absurd z.1 (by decide)) (by first | decide | omega | exact fun z => absurd z.1 (by decide)) (by first | decide | omega | exact fun z => absurd z.1 (by decide))]; rw [f2 _ _ (by first | decide | omega | exact fun z => absurd z.1 (by decide)) (by first | decide | omega | exact fun z => absurd z.1 (by decide)) (by first | decide | omega | exact fun z => absurd z.1 (by decide))]; rw [f1 _ _ (by first | decide | omega | exact fun z => absurd z.1 (by decide)) (by first | decide | omega | exact fun z => absurd z.1 (by decide)) (by first | decide | omega | exact fun z => absurd z.1 (by decide))]; skip)); (show am_up μ5 62 3 5 75 r = ν 76 r; rw [am_upN (by decide)]; ( rw [(a5 r hr).2]; rw [f4 _ _ (by first | decide | omega | exact fun z => absurd z.1 (by decide)) (by first | decide | omega | exact fun z => absurd z.1 (by decide)) (by first | decide | omega | exact fun z => absurd z.1 (by decide))]; rw [f3 _ _ (by first | decide | omega | exact fun z => absurd z.1 (by decide)) (by first | decide | omega | exact fun z => absurd z.1 (by decide)) (by first | decide | omega | exact fun z => absurd z.1 (by decide))]; rw [f2 _ _ (by first | decide | omega | exact fun z => absurd z.1 (by decide)) (by first | decide | omega | exact fun z => absurd z.1 (by decide)) (by first | decide | omega | exact fun z => absurd z.1 (by decide))]; rw [f1 _ _ (by first | decide | omega | exact fun z => absurd z.1 (by decide)) (by first | decide | omega | exact fun z => absurd z.1 (by decide)) (by first | decide | omega | exact fun z => absurd z.1 (by decide))]; skip)); (show am_up μ5 62 3 5 77 4 = ν 77 5; rw [am_upN (by decide)]; ( rw [c5]; rw [f4 _ _ (by first | decide | omega | exact fun z => absurd z.1 (by decide)) (by first | decide | omega | exact fun z => absurd z.1 (by decide)) (by first | decide | omega | exact fun z => absurd z.1 (by decide))]; rw [f3 _ _ (by first | decide | omega | exact fun z => absurd z.1 (by decide)) (by first | decide | omega | exact fun z => absurd z.1 (by decide)) (by first | decide | omega | exact fun z => absurd z.1 (by decide))]; rw [f2 _ _ (by first | decide | omega | exact fun z => absurd z.1 (by decide)) (by first | decide | omega | exact fun z => absurd z.1 (by decide)) (by first | decide | omega | exact fun z => absurd z.1 (by decide))]; rw [f1 _ _ (by first | decide | omega | exact fun z => absurd z.1 (by decide)) (by first | decide | omega | exact fun z => absurd z.1 (by decide)) (by first | decide | omega | exact fun z => absurd z.1 (by decide))]; skip)))))
theorem x_kp_0 {l : Launch} {ν : am_N} {Q : Option am_V → am_N → Prop} (hB : ν 62 3 = 0) (k : ∀ μ' : am_N, (∀ a b, a ≠ 64 → a ≠ 71 → ¬(a = 77 ∧ b = 0) → ¬(a = 62 ∧ b = 3) → μ' a b = ν a b) → μ' 62 3 = 1 → (∀ r : Nat, r < 4 → μ' 64 r = ν 6 r ∧ μ' 71 r = ν 7 r) → μ' 77 0 = ν 1 1 → Q none μ') : am_AW l 0 (fun _ => 0) 46 Q 13 [some (.inr (.inr 62)), some (.inr (.inr 1)), none] [] ν := by
  have lp15 : ∀ (m : Nat) (i : Int) (μ : am_N) , (∀ a b, a ≠ 64 → a ≠ 71 → μ a b = ν a b) → 0 ≤ i → i ≤ 4 → (∀ b : Nat, (b : Int) < i → μ 64 b = ν 6 b ∧ μ 71 b = ν 7 b) → 4 - i < (m : Int) → am_AW l 0 (fun _ => 0) 46 Q 15 [some (.inr (.inr 62)), some (.inr (.inr 1)), some (.inl i)] [] μ := by
    intro m
    induction m with
    | zero =>
      intro i μ hv0 hv1 hv2 hv3 hm
      exfalso
      omega
    | succ m ih =>
      intro i μ hv0 hv1 hv2 hv3 hm
      have ci : am_c i = i := am_cR (by omega) (by omega)
      have c4 : am_c 4 = 4 := rfl
      have eB : μ 62 3 = 0 := (hv0 62 3 (by decide) (by decide)).trans hB
      have eC : am_up μ 64 (am_c i).toNat (μ 6 (am_c i).toNat) 62 3 = 0 := (am_upN (by decide)).trans eB
      refine am_go (ct := fun pc => Nat.beq pc 15) am_oX4_keep 300 ?_
      conv => whnf
      repeat' first
        | (refine (?_ : am_wp _ _ _ _ _ _ _ _ _ _ _ _); conv => whnf)
        | (refine (?_ : am_sw _ _ _ _); conv => whnf)
        | refine And.intro trivial ?_
        | exact trivial
        | ((with_reducible refine (?_ : ∀ j : Nat, (_ : Option Nat) = some j → _)); refine am_ab1 (a := 64) (by rw [eB]; rfl) ?_)
        | ((with_reducible refine (?_ : ∀ j : Nat, (_ : Option Nat) = some j → _)); refine am_ab1 (a := 71) (by rw [eB]; rfl) ?_)
        | ((with_reducible refine (?_ : ∀ j : Nat, (_ : Option Nat) = some j → _)); refine am_ab1 (a := 64) (by rw [eC]; rfl) ?_)
        | ((with_reducible refine (?_ : ∀ j : Nat, (_ : Option Nat) = some j → _)); refine am_ab1 (a := 71) (by rw [eC]; rfl) ?_)
        | refine k _ ?_ ?_ ?_ ?_
        | ((with_reducible refine (?_ : am_AW _ _ _ _ _ 15 _ _ _)); refine ih _ _ ?_ ?_ ?_ ?_ ?_)
        | refine And.intro (fun h => absurd h (by decide)) (fun _ => ?_)
        | refine And.intro (fun _ => ?_) (fun h => absurd (by decide) h)
        | refine And.intro (fun _ => ?_) (fun _ => ?_)
        | refine And.intro ?_ ?_
      all_goals (first | decide | omega | (simp only [ci, c4] at *; omega) | (intro a b h1 h2; rw [am_upN h2, am_upN h1]; exact hv0 a b h1 h2) | (intro b hb; by_cases d : (b : Int) = i; (rw [am_upN (by decide), am_upS, if_pos ⟨rfl, by rw [ci]; omega⟩, am_upS, if_pos ⟨rfl, by rw [ci]; omega⟩, am_upN (by decide), hv0 _ _ (by decide) (by decide), hv0 _ _ (by decide) (by decide), ci, show i.toNat = b by omega]; exact ⟨rfl, rfl⟩); (rw [am_upN (by decide), am_upM (by rw [ci]; omega), am_upM (by rw [ci]; omega)]; exact hv3 b (by omega))) | (rw [eB]; decide) | (rw [eC]; decide) | (intro a b h1 h2 h3 h4; rw [am_uE h4]; exact Eq.trans (am_uE (fun z => h3 ⟨z.1, by rw [z.2, eB]; rfl⟩)) (hv0 a b h1 h2)) | (rw [am_upS, if_pos ⟨rfl, rfl⟩, am_upN (by decide), eB]; rfl) | (intro b hb; rw [am_upN (by decide), am_upN (by decide), am_upN (by decide), am_upN (by decide)]; exact hv3 b (by simp only [ci, c4] at *; omega)) | (rw [am_upN (by decide), am_upS, if_pos ⟨rfl, by rw [eB]; rfl⟩]; exact hv0 _ _ (by decide) (by decide)) | (trace_state; fail))
  have lp15' : ∀ (i : Int) (μ : am_N) , (∀ a b, a ≠ 64 → a ≠ 71 → μ a b = ν a b) → 0 ≤ i → i ≤ 4 → (∀ b : Nat, (b : Int) < i → μ 64 b = ν 6 b ∧ μ 71 b = ν 7 b) → am_AW l 0 (fun _ => 0) 46 Q 15 [some (.inr (.inr 62)), some (.inr (.inr 1)), some (.inl i)] [] μ := fun i μ hv0 hv1 hv2 hv3 => lp15 ((4 - i) + 1).toNat i μ hv0 hv1 hv2 hv3 (by omega)
  refine am_go (ct := fun pc => Nat.beq pc 15) am_oX4_keep 300 ?_
  conv => whnf
  repeat' first
    | (refine (?_ : am_wp _ _ _ _ _ _ _ _ _ _ _ _); conv => whnf)
    | (refine (?_ : am_sw _ _ _ _); conv => whnf)
    | refine And.intro trivial ?_
    | exact trivial
    | ((with_reducible refine (?_ : am_AW _ _ _ _ _ 15 _ _ _)); refine lp15' _ _ ?_ ?_ ?_ ?_)
    | refine And.intro (fun h => absurd h (by decide)) (fun _ => ?_)
    | refine And.intro (fun _ => ?_) (fun h => absurd (by decide) h)
    | refine And.intro (fun _ => ?_) (fun _ => ?_)
    | refine And.intro ?_ ?_
  all_goals (first | decide | omega | exact fun _ _ _ _ => rfl | (intros; omega) | (trace_state; fail))
theorem x_kp_1 {l : Launch} {ν : am_N} {Q : Option am_V → am_N → Prop} (hB : ν 62 3 = 1) (k : ∀ μ' : am_N, (∀ a b, a ≠ 65 → a ≠ 72 → ¬(a = 77 ∧ b = 1) → ¬(a = 62 ∧ b = 3) → μ' a b = ν a b) → μ' 62 3 = 2 → (∀ r : Nat, r < 4 → μ' 65 r = ν 6 r ∧ μ' 72 r = ν 7 r) → μ' 77 1 = ν 1 1 → Q none μ') : am_AW l 0 (fun _ => 0) 46 Q 13 [some (.inr (.inr 62)), some (.inr (.inr 1)), none] [] ν := by
  have lp15 : ∀ (m : Nat) (i : Int) (μ : am_N) , (∀ a b, a ≠ 65 → a ≠ 72 → μ a b = ν a b) → 0 ≤ i → i ≤ 4 → (∀ b : Nat, (b : Int) < i → μ 65 b = ν 6 b ∧ μ 72 b = ν 7 b) → 4 - i < (m : Int) → am_AW l 0 (fun _ => 0) 46 Q 15 [some (.inr (.inr 62)), some (.inr (.inr 1)), some (.inl i)] [] μ := by
    intro m
    induction m with
    | zero =>
      intro i μ hv0 hv1 hv2 hv3 hm
      exfalso
      omega
    | succ m ih =>
      intro i μ hv0 hv1 hv2 hv3 hm
      have ci : am_c i = i := am_cR (by omega) (by omega)
      have c4 : am_c 4 = 4 := rfl
      have eB : μ 62 3 = 1 := (hv0 62 3 (by decide) (by decide)).trans hB
      have eC : am_up μ 65 (am_c i).toNat (μ 6 (am_c i).toNat) 62 3 = 1 := (am_upN (by decide)).trans eB
      refine am_go (ct := fun pc => Nat.beq pc 15) am_oX4_keep 300 ?_
      conv => whnf
      repeat' first
        | (refine (?_ : am_wp _ _ _ _ _ _ _ _ _ _ _ _); conv => whnf)
        | (refine (?_ : am_sw _ _ _ _); conv => whnf)
        | refine And.intro trivial ?_
        | exact trivial
        | ((with_reducible refine (?_ : ∀ j : Nat, (_ : Option Nat) = some j → _)); refine am_ab1 (a := 65) (by rw [eB]; rfl) ?_)
        | ((with_reducible refine (?_ : ∀ j : Nat, (_ : Option Nat) = some j → _)); refine am_ab1 (a := 72) (by rw [eB]; rfl) ?_)
        | ((with_reducible refine (?_ : ∀ j : Nat, (_ : Option Nat) = some j → _)); refine am_ab1 (a := 65) (by rw [eC]; rfl) ?_)
        | ((with_reducible refine (?_ : ∀ j : Nat, (_ : Option Nat) = some j → _)); refine am_ab1 (a := 72) (by rw [eC]; rfl) ?_)
        | refine k _ ?_ ?_ ?_ ?_
        | ((with_reducible refine (?_ : am_AW _ _ _ _ _ 15 _ _ _)); refine ih _ _ ?_ ?_ ?_ ?_ ?_)
        | refine And.intro (fun h => absurd h (by decide)) (fun _ => ?_)
        | refine And.intro (fun _ => ?_) (fun h => absurd (by decide) h)
        | refine And.intro (fun _ => ?_) (fun _ => ?_)
        | refine And.intro ?_ ?_
      all_goals (first | decide | omega | (simp only [ci, c4] at *; omega) | (intro a b h1 h2; rw [am_upN h2, am_upN h1]; exact hv0 a b h1 h2) | (intro b hb; by_cases d : (b : Int) = i; (rw [am_upN (by decide), am_upS, if_pos ⟨rfl, by rw [ci]; omega⟩, am_upS, if_pos ⟨rfl, by rw [ci]; omega⟩, am_upN (by decide), hv0 _ _ (by decide) (by decide), hv0 _ _ (by decide) (by decide), ci, show i.toNat = b by omega]; exact ⟨rfl, rfl⟩); (rw [am_upN (by decide), am_upM (by rw [ci]; omega), am_upM (by rw [ci]; omega)]; exact hv3 b (by omega))) | (rw [eB]; decide) | (rw [eC]; decide) | (intro a b h1 h2 h3 h4; rw [am_uE h4]; exact Eq.trans (am_uE (fun z => h3 ⟨z.1, by rw [z.2, eB]; rfl⟩)) (hv0 a b h1 h2)) | (rw [am_upS, if_pos ⟨rfl, rfl⟩, am_upN (by decide), eB]; rfl) | (intro b hb; rw [am_upN (by decide), am_upN (by decide), am_upN (by decide), am_upN (by decide)]; exact hv3 b (by simp only [ci, c4] at *; omega)) | (rw [am_upN (by decide), am_upS, if_pos ⟨rfl, by rw [eB]; rfl⟩]; exact hv0 _ _ (by decide) (by decide)) | (trace_state; fail))
  have lp15' : ∀ (i : Int) (μ : am_N) , (∀ a b, a ≠ 65 → a ≠ 72 → μ a b = ν a b) → 0 ≤ i → i ≤ 4 → (∀ b : Nat, (b : Int) < i → μ 65 b = ν 6 b ∧ μ 72 b = ν 7 b) → am_AW l 0 (fun _ => 0) 46 Q 15 [some (.inr (.inr 62)), some (.inr (.inr 1)), some (.inl i)] [] μ := fun i μ hv0 hv1 hv2 hv3 => lp15 ((4 - i) + 1).toNat i μ hv0 hv1 hv2 hv3 (by omega)
  refine am_go (ct := fun pc => Nat.beq pc 15) am_oX4_keep 300 ?_
  conv => whnf
  repeat' first
    | (refine (?_ : am_wp _ _ _ _ _ _ _ _ _ _ _ _); conv => whnf)
    | (refine (?_ : am_sw _ _ _ _); conv => whnf)
    | refine And.intro trivial ?_
    | exact trivial
    | ((with_reducible refine (?_ : am_AW _ _ _ _ _ 15 _ _ _)); refine lp15' _ _ ?_ ?_ ?_ ?_)
    | refine And.intro (fun h => absurd h (by decide)) (fun _ => ?_)
    | refine And.intro (fun _ => ?_) (fun h => absurd (by decide) h)
    | refine And.intro (fun _ => ?_) (fun _ => ?_)
    | refine And.intro ?_ ?_
  all_goals (first | decide | omega | exact fun _ _ _ _ => rfl | (intros; omega) | (trace_state; fail))
theorem x_kp_2 {l : Launch} {ν : am_N} {Q : Option am_V → am_N → Prop} (hB : ν 62 3 = 2) (k : ∀ μ' : am_N, (∀ a b, a ≠ 66 → a ≠ 73 → ¬(a = 77 ∧ b = 2) → ¬(a = 62 ∧ b = 3) → μ' a b = ν a b) → μ' 62 3 = 3 → (∀ r : Nat, r < 4 → μ' 66 r = ν 6 r ∧ μ' 73 r = ν 7 r) → μ' 77 2 = ν 1 1 → Q none μ') : am_AW l 0 (fun _ => 0) 46 Q 13 [some (.inr (.inr 62)), some (.inr (.inr 1)), none] [] ν := by
  have lp15 : ∀ (m : Nat) (i : Int) (μ : am_N) , (∀ a b, a ≠ 66 → a ≠ 73 → μ a b = ν a b) → 0 ≤ i → i ≤ 4 → (∀ b : Nat, (b : Int) < i → μ 66 b = ν 6 b ∧ μ 73 b = ν 7 b) → 4 - i < (m : Int) → am_AW l 0 (fun _ => 0) 46 Q 15 [some (.inr (.inr 62)), some (.inr (.inr 1)), some (.inl i)] [] μ := by
    intro m
    induction m with
    | zero =>
      intro i μ hv0 hv1 hv2 hv3 hm
      exfalso
      omega
    | succ m ih =>
      intro i μ hv0 hv1 hv2 hv3 hm
      have ci : am_c i = i := am_cR (by omega) (by omega)
      have c4 : am_c 4 = 4 := rfl
      have eB : μ 62 3 = 2 := (hv0 62 3 (by decide) (by decide)).trans hB
      have eC : am_up μ 66 (am_c i).toNat (μ 6 (am_c i).toNat) 62 3 = 2 := (am_upN (by decide)).trans eB
      refine am_go (ct := fun pc => Nat.beq pc 15) am_oX4_keep 300 ?_
      conv => whnf
      repeat' first
        | (refine (?_ : am_wp _ _ _ _ _ _ _ _ _ _ _ _); conv => whnf)
        | (refine (?_ : am_sw _ _ _ _); conv => whnf)
        | refine And.intro trivial ?_
        | exact trivial
        | ((with_reducible refine (?_ : ∀ j : Nat, (_ : Option Nat) = some j → _)); refine am_ab1 (a := 66) (by rw [eB]; rfl) ?_)
        | ((with_reducible refine (?_ : ∀ j : Nat, (_ : Option Nat) = some j → _)); refine am_ab1 (a := 73) (by rw [eB]; rfl) ?_)
        | ((with_reducible refine (?_ : ∀ j : Nat, (_ : Option Nat) = some j → _)); refine am_ab1 (a := 66) (by rw [eC]; rfl) ?_)
        | ((with_reducible refine (?_ : ∀ j : Nat, (_ : Option Nat) = some j → _)); refine am_ab1 (a := 73) (by rw [eC]; rfl) ?_)
        | refine k _ ?_ ?_ ?_ ?_
        | ((with_reducible refine (?_ : am_AW _ _ _ _ _ 15 _ _ _)); refine ih _ _ ?_ ?_ ?_ ?_ ?_)
        | refine And.intro (fun h => absurd h (by decide)) (fun _ => ?_)
        | refine And.intro (fun _ => ?_) (fun h => absurd (by decide) h)
        | refine And.intro (fun _ => ?_) (fun _ => ?_)
        | refine And.intro ?_ ?_
      all_goals (first | decide | omega | (simp only [ci, c4] at *; omega) | (intro a b h1 h2; rw [am_upN h2, am_upN h1]; exact hv0 a b h1 h2) | (intro b hb; by_cases d : (b : Int) = i; (rw [am_upN (by decide), am_upS, if_pos ⟨rfl, by rw [ci]; omega⟩, am_upS, if_pos ⟨rfl, by rw [ci]; omega⟩, am_upN (by decide), hv0 _ _ (by decide) (by decide), hv0 _ _ (by decide) (by decide), ci, show i.toNat = b by omega]; exact ⟨rfl, rfl⟩); (rw [am_upN (by decide), am_upM (by rw [ci]; omega), am_upM (by rw [ci]; omega)]; exact hv3 b (by omega))) | (rw [eB]; decide) | (rw [eC]; decide) | (intro a b h1 h2 h3 h4; rw [am_uE h4]; exact Eq.trans (am_uE (fun z => h3 ⟨z.1, by rw [z.2, eB]; rfl⟩)) (hv0 a b h1 h2)) | (rw [am_upS, if_pos ⟨rfl, rfl⟩, am_upN (by decide), eB]; rfl) | (intro b hb; rw [am_upN (by decide), am_upN (by decide), am_upN (by decide), am_upN (by decide)]; exact hv3 b (by simp only [ci, c4] at *; omega)) | (rw [am_upN (by decide), am_upS, if_pos ⟨rfl, by rw [eB]; rfl⟩]; exact hv0 _ _ (by decide) (by decide)) | (trace_state; fail))
  have lp15' : ∀ (i : Int) (μ : am_N) , (∀ a b, a ≠ 66 → a ≠ 73 → μ a b = ν a b) → 0 ≤ i → i ≤ 4 → (∀ b : Nat, (b : Int) < i → μ 66 b = ν 6 b ∧ μ 73 b = ν 7 b) → am_AW l 0 (fun _ => 0) 46 Q 15 [some (.inr (.inr 62)), some (.inr (.inr 1)), some (.inl i)] [] μ := fun i μ hv0 hv1 hv2 hv3 => lp15 ((4 - i) + 1).toNat i μ hv0 hv1 hv2 hv3 (by omega)
  refine am_go (ct := fun pc => Nat.beq pc 15) am_oX4_keep 300 ?_
  conv => whnf
  repeat' first
    | (refine (?_ : am_wp _ _ _ _ _ _ _ _ _ _ _ _); conv => whnf)
    | (refine (?_ : am_sw _ _ _ _); conv => whnf)
    | refine And.intro trivial ?_
    | exact trivial
    | ((with_reducible refine (?_ : am_AW _ _ _ _ _ 15 _ _ _)); refine lp15' _ _ ?_ ?_ ?_ ?_)
    | refine And.intro (fun h => absurd h (by decide)) (fun _ => ?_)
    | refine And.intro (fun _ => ?_) (fun h => absurd (by decide) h)
    | refine And.intro (fun _ => ?_) (fun _ => ?_)
    | refine And.intro ?_ ?_
  all_goals (first | decide | omega | exact fun _ _ _ _ => rfl | (intros; omega) | (trace_state; fail))
theorem x_kp_3 {l : Launch} {ν : am_N} {Q : Option am_V → am_N → Prop} (hB : ν 62 3 = 3) (k : ∀ μ' : am_N, (∀ a b, a ≠ 67 → a ≠ 74 → ¬(a = 77 ∧ b = 3) → ¬(a = 62 ∧ b = 3) → μ' a b = ν a b) → μ' 62 3 = 4 → (∀ r : Nat, r < 4 → μ' 67 r = ν 6 r ∧ μ' 74 r = ν 7 r) → μ' 77 3 = ν 1 1 → Q none μ') : am_AW l 0 (fun _ => 0) 46 Q 13 [some (.inr (.inr 62)), some (.inr (.inr 1)), none] [] ν := by
  have lp15 : ∀ (m : Nat) (i : Int) (μ : am_N) , (∀ a b, a ≠ 67 → a ≠ 74 → μ a b = ν a b) → 0 ≤ i → i ≤ 4 → (∀ b : Nat, (b : Int) < i → μ 67 b = ν 6 b ∧ μ 74 b = ν 7 b) → 4 - i < (m : Int) → am_AW l 0 (fun _ => 0) 46 Q 15 [some (.inr (.inr 62)), some (.inr (.inr 1)), some (.inl i)] [] μ := by
    intro m
    induction m with
    | zero =>
      intro i μ hv0 hv1 hv2 hv3 hm
      exfalso
      omega
    | succ m ih =>
      intro i μ hv0 hv1 hv2 hv3 hm
      have ci : am_c i = i := am_cR (by omega) (by omega)
      have c4 : am_c 4 = 4 := rfl
      have eB : μ 62 3 = 3 := (hv0 62 3 (by decide) (by decide)).trans hB
      have eC : am_up μ 67 (am_c i).toNat (μ 6 (am_c i).toNat) 62 3 = 3 := (am_upN (by decide)).trans eB
      refine am_go (ct := fun pc => Nat.beq pc 15) am_oX4_keep 300 ?_
      conv => whnf
      repeat' first
        | (refine (?_ : am_wp _ _ _ _ _ _ _ _ _ _ _ _); conv => whnf)
        | (refine (?_ : am_sw _ _ _ _); conv => whnf)
        | refine And.intro trivial ?_
        | exact trivial
        | ((with_reducible refine (?_ : ∀ j : Nat, (_ : Option Nat) = some j → _)); refine am_ab1 (a := 67) (by rw [eB]; rfl) ?_)
        | ((with_reducible refine (?_ : ∀ j : Nat, (_ : Option Nat) = some j → _)); refine am_ab1 (a := 74) (by rw [eB]; rfl) ?_)
        | ((with_reducible refine (?_ : ∀ j : Nat, (_ : Option Nat) = some j → _)); refine am_ab1 (a := 67) (by rw [eC]; rfl) ?_)
        | ((with_reducible refine (?_ : ∀ j : Nat, (_ : Option Nat) = some j → _)); refine am_ab1 (a := 74) (by rw [eC]; rfl) ?_)
        | refine k _ ?_ ?_ ?_ ?_
        | ((with_reducible refine (?_ : am_AW _ _ _ _ _ 15 _ _ _)); refine ih _ _ ?_ ?_ ?_ ?_ ?_)
        | refine And.intro (fun h => absurd h (by decide)) (fun _ => ?_)
        | refine And.intro (fun _ => ?_) (fun h => absurd (by decide) h)
        | refine And.intro (fun _ => ?_) (fun _ => ?_)
        | refine And.intro ?_ ?_
      all_goals (first | decide | omega | (simp only [ci, c4] at *; omega) | (intro a b h1 h2; rw [am_upN h2, am_upN h1]; exact hv0 a b h1 h2) | (intro b hb; by_cases d : (b : Int) = i; (rw [am_upN (by decide), am_upS, if_pos ⟨rfl, by rw [ci]; omega⟩, am_upS, if_pos ⟨rfl, by rw [ci]; omega⟩, am_upN (by decide), hv0 _ _ (by decide) (by decide), hv0 _ _ (by decide) (by decide), ci, show i.toNat = b by omega]; exact ⟨rfl, rfl⟩); (rw [am_upN (by decide), am_upM (by rw [ci]; omega), am_upM (by rw [ci]; omega)]; exact hv3 b (by omega))) | (rw [eB]; decide) | (rw [eC]; decide) | (intro a b h1 h2 h3 h4; rw [am_uE h4]; exact Eq.trans (am_uE (fun z => h3 ⟨z.1, by rw [z.2, eB]; rfl⟩)) (hv0 a b h1 h2)) | (rw [am_upS, if_pos ⟨rfl, rfl⟩, am_upN (by decide), eB]; rfl) | (intro b hb; rw [am_upN (by decide), am_upN (by decide), am_upN (by decide), am_upN (by decide)]; exact hv3 b (by simp only [ci, c4] at *; omega)) | (rw [am_upN (by decide), am_upS, if_pos ⟨rfl, by rw [eB]; rfl⟩]; exact hv0 _ _ (by decide) (by decide)) | (trace_state; fail))
  have lp15' : ∀ (i : Int) (μ : am_N) , (∀ a b, a ≠ 67 → a ≠ 74 → μ a b = ν a b) → 0 ≤ i → i ≤ 4 → (∀ b : Nat, (b : Int) < i → μ 67 b = ν 6 b ∧ μ 74 b = ν 7 b) → am_AW l 0 (fun _ => 0) 46 Q 15 [some (.inr (.inr 62)), some (.inr (.inr 1)), some (.inl i)] [] μ := fun i μ hv0 hv1 hv2 hv3 => lp15 ((4 - i) + 1).toNat i μ hv0 hv1 hv2 hv3 (by omega)
  refine am_go (ct := fun pc => Nat.beq pc 15) am_oX4_keep 300 ?_
  conv => whnf
  repeat' first
    | (refine (?_ : am_wp _ _ _ _ _ _ _ _ _ _ _ _); conv => whnf)
    | (refine (?_ : am_sw _ _ _ _); conv => whnf)
    | refine And.intro trivial ?_
    | exact trivial
    | ((with_reducible refine (?_ : am_AW _ _ _ _ _ 15 _ _ _)); refine lp15' _ _ ?_ ?_ ?_ ?_)
    | refine And.intro (fun h => absurd h (by decide)) (fun _ => ?_)
    | refine And.intro (fun _ => ?_) (fun h => absurd (by decide) h)
    | refine And.intro (fun _ => ?_) (fun _ => ?_)
    | refine And.intro ?_ ?_
  all_goals (first | decide | omega | exact fun _ _ _ _ => rfl | (intros; omega) | (trace_state; fail))
theorem x_kp_4 {l : Launch} {ν : am_N} {Q : Option am_V → am_N → Prop} (hB : ν 62 3 = 4) (k : ∀ μ' : am_N, (∀ a b, a ≠ 68 → a ≠ 75 → ¬(a = 77 ∧ b = 4) → ¬(a = 62 ∧ b = 3) → μ' a b = ν a b) → μ' 62 3 = 5 → (∀ r : Nat, r < 4 → μ' 68 r = ν 6 r ∧ μ' 75 r = ν 7 r) → μ' 77 4 = ν 1 1 → Q none μ') : am_AW l 0 (fun _ => 0) 46 Q 13 [some (.inr (.inr 62)), some (.inr (.inr 1)), none] [] ν := by
  have lp15 : ∀ (m : Nat) (i : Int) (μ : am_N) , (∀ a b, a ≠ 68 → a ≠ 75 → μ a b = ν a b) → 0 ≤ i → i ≤ 4 → (∀ b : Nat, (b : Int) < i → μ 68 b = ν 6 b ∧ μ 75 b = ν 7 b) → 4 - i < (m : Int) → am_AW l 0 (fun _ => 0) 46 Q 15 [some (.inr (.inr 62)), some (.inr (.inr 1)), some (.inl i)] [] μ := by
    intro m
    induction m with
    | zero =>
      intro i μ hv0 hv1 hv2 hv3 hm
      exfalso
      omega
    | succ m ih =>
      intro i μ hv0 hv1 hv2 hv3 hm
      have ci : am_c i = i := am_cR (by omega) (by omega)
      have c4 : am_c 4 = 4 := rfl
      have eB : μ 62 3 = 4 := (hv0 62 3 (by decide) (by decide)).trans hB
      have eC : am_up μ 68 (am_c i).toNat (μ 6 (am_c i).toNat) 62 3 = 4 := (am_upN (by decide)).trans eB
      refine am_go (ct := fun pc => Nat.beq pc 15) am_oX4_keep 300 ?_
      conv => whnf
      repeat' first
        | (refine (?_ : am_wp _ _ _ _ _ _ _ _ _ _ _ _); conv => whnf)
        | (refine (?_ : am_sw _ _ _ _); conv => whnf)
        | refine And.intro trivial ?_
        | exact trivial
        | ((with_reducible refine (?_ : ∀ j : Nat, (_ : Option Nat) = some j → _)); refine am_ab1 (a := 68) (by rw [eB]; rfl) ?_)
        | ((with_reducible refine (?_ : ∀ j : Nat, (_ : Option Nat) = some j → _)); refine am_ab1 (a := 75) (by rw [eB]; rfl) ?_)
        | ((with_reducible refine (?_ : ∀ j : Nat, (_ : Option Nat) = some j → _)); refine am_ab1 (a := 68) (by rw [eC]; rfl) ?_)
        | ((with_reducible refine (?_ : ∀ j : Nat, (_ : Option Nat) = some j → _)); refine am_ab1 (a := 75) (by rw [eC]; rfl) ?_)
        | refine k _ ?_ ?_ ?_ ?_
        | ((with_reducible refine (?_ : am_AW _ _ _ _ _ 15 _ _ _)); refine ih _ _ ?_ ?_ ?_ ?_ ?_)
        | refine And.intro (fun h => absurd h (by decide)) (fun _ => ?_)
        | refine And.intro (fun _ => ?_) (fun h => absurd (by decide) h)
        | refine And.intro (fun _ => ?_) (fun _ => ?_)
        | refine And.intro ?_ ?_
      all_goals (first | decide | omega | (simp only [ci, c4] at *; omega) | (intro a b h1 h2; rw [am_upN h2, am_upN h1]; exact hv0 a b h1 h2) | (intro b hb; by_cases d : (b : Int) = i; (rw [am_upN (by decide), am_upS, if_pos ⟨rfl, by rw [ci]; omega⟩, am_upS, if_pos ⟨rfl, by rw [ci]; omega⟩, am_upN (by decide), hv0 _ _ (by decide) (by decide), hv0 _ _ (by decide) (by decide), ci, show i.toNat = b by omega]; exact ⟨rfl, rfl⟩); (rw [am_upN (by decide), am_upM (by rw [ci]; omega), am_upM (by rw [ci]; omega)]; exact hv3 b (by omega))) | (rw [eB]; decide) | (rw [eC]; decide) | (intro a b h1 h2 h3 h4; rw [am_uE h4]; exact Eq.trans (am_uE (fun z => h3 ⟨z.1, by rw [z.2, eB]; rfl⟩)) (hv0 a b h1 h2)) | (rw [am_upS, if_pos ⟨rfl, rfl⟩, am_upN (by decide), eB]; rfl) | (intro b hb; rw [am_upN (by decide), am_upN (by decide), am_upN (by decide), am_upN (by decide)]; exact hv3 b (by simp only [ci, c4] at *; omega)) | (rw [am_upN (by decide), am_upS, if_pos ⟨rfl, by rw [eB]; rfl⟩]; exact hv0 _ _ (by decide) (by decide)) | (trace_state; fail))
  have lp15' : ∀ (i : Int) (μ : am_N) , (∀ a b, a ≠ 68 → a ≠ 75 → μ a b = ν a b) → 0 ≤ i → i ≤ 4 → (∀ b : Nat, (b : Int) < i → μ 68 b = ν 6 b ∧ μ 75 b = ν 7 b) → am_AW l 0 (fun _ => 0) 46 Q 15 [some (.inr (.inr 62)), some (.inr (.inr 1)), some (.inl i)] [] μ := fun i μ hv0 hv1 hv2 hv3 => lp15 ((4 - i) + 1).toNat i μ hv0 hv1 hv2 hv3 (by omega)
  refine am_go (ct := fun pc => Nat.beq pc 15) am_oX4_keep 300 ?_
  conv => whnf
  repeat' first
    | (refine (?_ : am_wp _ _ _ _ _ _ _ _ _ _ _ _); conv => whnf)
    | (refine (?_ : am_sw _ _ _ _); conv => whnf)
    | refine And.intro trivial ?_
    | exact trivial
    | ((with_reducible refine (?_ : am_AW _ _ _ _ _ 15 _ _ _)); refine lp15' _ _ ?_ ?_ ?_ ?_)
    | refine And.intro (fun h => absurd h (by decide)) (fun _ => ?_)
    | refine And.intro (fun _ => ?_) (fun h => absurd (by decide) h)
    | refine And.intro (fun _ => ?_) (fun _ => ?_)
    | refine And.intro ?_ ?_
  all_goals (first | decide | omega | exact fun _ _ _ _ => rfl | (intros; omega) | (trace_state; fail))
theorem x_kp_5 {l : Launch} {ν : am_N} {Q : Option am_V → am_N → Prop} (hB : ν 62 3 = 5) (k : ∀ μ' : am_N, (∀ a b, a ≠ 69 → a ≠ 76 → ¬(a = 77 ∧ b = 5) → ¬(a = 62 ∧ b = 3) → μ' a b = ν a b) → μ' 62 3 = 6 → (∀ r : Nat, r < 4 → μ' 69 r = ν 6 r ∧ μ' 76 r = ν 7 r) → μ' 77 5 = ν 1 1 → Q none μ') : am_AW l 0 (fun _ => 0) 46 Q 13 [some (.inr (.inr 62)), some (.inr (.inr 1)), none] [] ν := by
  have lp15 : ∀ (m : Nat) (i : Int) (μ : am_N) , (∀ a b, a ≠ 69 → a ≠ 76 → μ a b = ν a b) → 0 ≤ i → i ≤ 4 → (∀ b : Nat, (b : Int) < i → μ 69 b = ν 6 b ∧ μ 76 b = ν 7 b) → 4 - i < (m : Int) → am_AW l 0 (fun _ => 0) 46 Q 15 [some (.inr (.inr 62)), some (.inr (.inr 1)), some (.inl i)] [] μ := by
    intro m
    induction m with
    | zero =>
      intro i μ hv0 hv1 hv2 hv3 hm
      exfalso
      omega
    | succ m ih =>
      intro i μ hv0 hv1 hv2 hv3 hm
      have ci : am_c i = i := am_cR (by omega) (by omega)
      have c4 : am_c 4 = 4 := rfl
      have eB : μ 62 3 = 5 := (hv0 62 3 (by decide) (by decide)).trans hB
      have eC : am_up μ 69 (am_c i).toNat (μ 6 (am_c i).toNat) 62 3 = 5 := (am_upN (by decide)).trans eB
      refine am_go (ct := fun pc => Nat.beq pc 15) am_oX4_keep 300 ?_
      conv => whnf
      repeat' first
        | (refine (?_ : am_wp _ _ _ _ _ _ _ _ _ _ _ _); conv => whnf)
        | (refine (?_ : am_sw _ _ _ _); conv => whnf)
        | refine And.intro trivial ?_
        | exact trivial
        | ((with_reducible refine (?_ : ∀ j : Nat, (_ : Option Nat) = some j → _)); refine am_ab1 (a := 69) (by rw [eB]; rfl) ?_)
        | ((with_reducible refine (?_ : ∀ j : Nat, (_ : Option Nat) = some j → _)); refine am_ab1 (a := 76) (by rw [eB]; rfl) ?_)
        | ((with_reducible refine (?_ : ∀ j : Nat, (_ : Option Nat) = some j → _)); refine am_ab1 (a := 69) (by rw [eC]; rfl) ?_)
        | ((with_reducible refine (?_ : ∀ j : Nat, (_ : Option Nat) = some j → _)); refine am_ab1 (a := 76) (by rw [eC]; rfl) ?_)
        | refine k _ ?_ ?_ ?_ ?_
        | ((with_reducible refine (?_ : am_AW _ _ _ _ _ 15 _ _ _)); refine ih _ _ ?_ ?_ ?_ ?_ ?_)
        | refine And.intro (fun h => absurd h (by decide)) (fun _ => ?_)
        | refine And.intro (fun _ => ?_) (fun h => absurd (by decide) h)
        | refine And.intro (fun _ => ?_) (fun _ => ?_)
        | refine And.intro ?_ ?_
      all_goals (first | decide | omega | (simp only [ci, c4] at *; omega) | (intro a b h1 h2; rw [am_upN h2, am_upN h1]; exact hv0 a b h1 h2) | (intro b hb; by_cases d : (b : Int) = i; (rw [am_upN (by decide), am_upS, if_pos ⟨rfl, by rw [ci]; omega⟩, am_upS, if_pos ⟨rfl, by rw [ci]; omega⟩, am_upN (by decide), hv0 _ _ (by decide) (by decide), hv0 _ _ (by decide) (by decide), ci, show i.toNat = b by omega]; exact ⟨rfl, rfl⟩); (rw [am_upN (by decide), am_upM (by rw [ci]; omega), am_upM (by rw [ci]; omega)]; exact hv3 b (by omega))) | (rw [eB]; decide) | (rw [eC]; decide) | (intro a b h1 h2 h3 h4; rw [am_uE h4]; exact Eq.trans (am_uE (fun z => h3 ⟨z.1, by rw [z.2, eB]; rfl⟩)) (hv0 a b h1 h2)) | (rw [am_upS, if_pos ⟨rfl, rfl⟩, am_upN (by decide), eB]; rfl) | (intro b hb; rw [am_upN (by decide), am_upN (by decide), am_upN (by decide), am_upN (by decide)]; exact hv3 b (by simp only [ci, c4] at *; omega)) | (rw [am_upN (by decide), am_upS, if_pos ⟨rfl, by rw [eB]; rfl⟩]; exact hv0 _ _ (by decide) (by decide)) | (trace_state; fail))
  have lp15' : ∀ (i : Int) (μ : am_N) , (∀ a b, a ≠ 69 → a ≠ 76 → μ a b = ν a b) → 0 ≤ i → i ≤ 4 → (∀ b : Nat, (b : Int) < i → μ 69 b = ν 6 b ∧ μ 76 b = ν 7 b) → am_AW l 0 (fun _ => 0) 46 Q 15 [some (.inr (.inr 62)), some (.inr (.inr 1)), some (.inl i)] [] μ := fun i μ hv0 hv1 hv2 hv3 => lp15 ((4 - i) + 1).toNat i μ hv0 hv1 hv2 hv3 (by omega)
  refine am_go (ct := fun pc => Nat.beq pc 15) am_oX4_keep 300 ?_
  conv => whnf
  repeat' first
    | (refine (?_ : am_wp _ _ _ _ _ _ _ _ _ _ _ _); conv => whnf)
    | (refine (?_ : am_sw _ _ _ _); conv => whnf)
    | refine And.intro trivial ?_
    | exact trivial
    | ((with_reducible refine (?_ : am_AW _ _ _ _ _ 15 _ _ _)); refine lp15' _ _ ?_ ?_ ?_ ?_)
    | refine And.intro (fun h => absurd h (by decide)) (fun _ => ?_)
    | refine And.intro (fun _ => ?_) (fun h => absurd (by decide) h)
    | refine And.intro (fun _ => ?_) (fun _ => ?_)
    | refine And.intro ?_ ?_
  all_goals (first | decide | omega | exact fun _ _ _ _ => rfl | (intros; omega) | (trace_state; fail))
theorem x_keep_0 {l : Launch} {ν : am_N} {Q : Option am_V → am_N → Prop} (hB : ν 62 3 = 0) (k : ∀ μ' : am_N, (∀ a b, ¬(62 ≤ a ∧ a ≤ 77) → μ' a b = ν a b) → μ' 62 3 = (if ν 62 3 < 6 then ν 62 3 + 1 else 6) → (∀ r : Nat, r < 4 → μ' (64 + (μ' 62 3 - 1).toNat) r = ν 6 r ∧ μ' (71 + (μ' 62 3 - 1).toNat) r = ν 7 r) → μ' 77 (μ' 62 3 - 1).toNat = ν 1 1 → (∀ j : Nat, (j : Int) + 1 < μ' 62 3 → (∀ r : Nat, r < 4 → μ' (64 + (μ' 62 3 - 2 - j).toNat) r = ν (64 + (ν 62 3 - 1 - j).toNat) r ∧ μ' (71 + (μ' 62 3 - 2 - j).toNat) r = ν (71 + (ν 62 3 - 1 - j).toNat) r) ∧ μ' 77 (μ' 62 3 - 2 - j).toNat = ν 77 (ν 62 3 - 1 - j).toNat) → Q none μ') : am_Does l 46 [.inr (.inr 62), .inr (.inr 1)] ν Q := by
  refine am_Does_of (Nat.le_of_ble_eq_true rfl) (Nat.le_of_ble_eq_true rfl) (Nat.le_of_ble_eq_true rfl) ?_
  have cB : am_c (ν 62 3) ≠ am_c 6 := by rw [hB]; decide
  refine am_go (ct := fun pc => Nat.beq pc 13) am_oX4_keep 60 ?_
  conv => whnf
  repeat' first
    | (refine (?_ : am_wp _ _ _ _ _ _ _ _ _ _ _ _); conv => whnf)
    | (refine (?_ : am_sw _ _ _ _); conv => whnf)
    | refine And.intro trivial ?_
    | exact trivial
    | refine And.intro (fun _ => ?_) (fun z => absurd z cB)
    | refine x_kp_0 ?_ (fun μ1 f1 n1 r1 w1 => k μ1 ?_ ?_ ?_ ?_ ?_)
    | refine And.intro (fun h => absurd h (by decide)) (fun _ => ?_)
    | refine And.intro (fun _ => ?_) (fun h => absurd (by decide) h)
    | refine And.intro (fun _ => ?_) (fun _ => ?_)
    | refine And.intro ?_ ?_
  all_goals (first | exact hB | (intro a b h; exact f1 a b (by omega) (by omega) (by omega) (by omega)) | (rw [n1, hB]; rfl) | (rw [n1]; exact r1) | (rw [n1]; exact w1) | (rw [n1, hB]; intro j hj; rw [show (((1 : Int) - 2 - j).toNat) = (((0 : Int) - 1 - j).toNat) by omega]; refine ⟨fun r hr => ⟨f1 _ _ (by omega) (by omega) (by omega) (by omega), f1 _ _ (by omega) (by omega) (by omega) (by omega)⟩, f1 _ _ (by omega) (by omega) (by omega) (by omega)⟩) | (trace_state; fail))
theorem x_keep_1 {l : Launch} {ν : am_N} {Q : Option am_V → am_N → Prop} (hB : ν 62 3 = 1) (k : ∀ μ' : am_N, (∀ a b, ¬(62 ≤ a ∧ a ≤ 77) → μ' a b = ν a b) → μ' 62 3 = (if ν 62 3 < 6 then ν 62 3 + 1 else 6) → (∀ r : Nat, r < 4 → μ' (64 + (μ' 62 3 - 1).toNat) r = ν 6 r ∧ μ' (71 + (μ' 62 3 - 1).toNat) r = ν 7 r) → μ' 77 (μ' 62 3 - 1).toNat = ν 1 1 → (∀ j : Nat, (j : Int) + 1 < μ' 62 3 → (∀ r : Nat, r < 4 → μ' (64 + (μ' 62 3 - 2 - j).toNat) r = ν (64 + (ν 62 3 - 1 - j).toNat) r ∧ μ' (71 + (μ' 62 3 - 2 - j).toNat) r = ν (71 + (ν 62 3 - 1 - j).toNat) r) ∧ μ' 77 (μ' 62 3 - 2 - j).toNat = ν 77 (ν 62 3 - 1 - j).toNat) → Q none μ') : am_Does l 46 [.inr (.inr 62), .inr (.inr 1)] ν Q := by
  refine am_Does_of (Nat.le_of_ble_eq_true rfl) (Nat.le_of_ble_eq_true rfl) (Nat.le_of_ble_eq_true rfl) ?_
  have cB : am_c (ν 62 3) ≠ am_c 6 := by rw [hB]; decide
  refine am_go (ct := fun pc => Nat.beq pc 13) am_oX4_keep 60 ?_
  conv => whnf
  repeat' first
    | (refine (?_ : am_wp _ _ _ _ _ _ _ _ _ _ _ _); conv => whnf)
    | (refine (?_ : am_sw _ _ _ _); conv => whnf)
    | refine And.intro trivial ?_
    | exact trivial
    | refine And.intro (fun _ => ?_) (fun z => absurd z cB)
    | refine x_kp_1 ?_ (fun μ1 f1 n1 r1 w1 => k μ1 ?_ ?_ ?_ ?_ ?_)
    | refine And.intro (fun h => absurd h (by decide)) (fun _ => ?_)
    | refine And.intro (fun _ => ?_) (fun h => absurd (by decide) h)
    | refine And.intro (fun _ => ?_) (fun _ => ?_)
    | refine And.intro ?_ ?_
  all_goals (first | exact hB | (intro a b h; exact f1 a b (by omega) (by omega) (by omega) (by omega)) | (rw [n1, hB]; rfl) | (rw [n1]; exact r1) | (rw [n1]; exact w1) | (rw [n1, hB]; intro j hj; rw [show (((2 : Int) - 2 - j).toNat) = (((1 : Int) - 1 - j).toNat) by omega]; refine ⟨fun r hr => ⟨f1 _ _ (by omega) (by omega) (by omega) (by omega), f1 _ _ (by omega) (by omega) (by omega) (by omega)⟩, f1 _ _ (by omega) (by omega) (by omega) (by omega)⟩) | (trace_state; fail))
theorem x_keep_2 {l : Launch} {ν : am_N} {Q : Option am_V → am_N → Prop} (hB : ν 62 3 = 2) (k : ∀ μ' : am_N, (∀ a b, ¬(62 ≤ a ∧ a ≤ 77) → μ' a b = ν a b) → μ' 62 3 = (if ν 62 3 < 6 then ν 62 3 + 1 else 6) → (∀ r : Nat, r < 4 → μ' (64 + (μ' 62 3 - 1).toNat) r = ν 6 r ∧ μ' (71 + (μ' 62 3 - 1).toNat) r = ν 7 r) → μ' 77 (μ' 62 3 - 1).toNat = ν 1 1 → (∀ j : Nat, (j : Int) + 1 < μ' 62 3 → (∀ r : Nat, r < 4 → μ' (64 + (μ' 62 3 - 2 - j).toNat) r = ν (64 + (ν 62 3 - 1 - j).toNat) r ∧ μ' (71 + (μ' 62 3 - 2 - j).toNat) r = ν (71 + (ν 62 3 - 1 - j).toNat) r) ∧ μ' 77 (μ' 62 3 - 2 - j).toNat = ν 77 (ν 62 3 - 1 - j).toNat) → Q none μ') : am_Does l 46 [.inr (.inr 62), .inr (.inr 1)] ν Q := by
  refine am_Does_of (Nat.le_of_ble_eq_true rfl) (Nat.le_of_ble_eq_true rfl) (Nat.le_of_ble_eq_true rfl) ?_
  have cB : am_c (ν 62 3) ≠ am_c 6 := by rw [hB]; decide
  refine am_go (ct := fun pc => Nat.beq pc 13) am_oX4_keep 60 ?_
  conv => whnf
  repeat' first
    | (refine (?_ : am_wp _ _ _ _ _ _ _ _ _ _ _ _); conv => whnf)
    | (refine (?_ : am_sw _ _ _ _); conv => whnf)
    | refine And.intro trivial ?_
    | exact trivial
    | refine And.intro (fun _ => ?_) (fun z => absurd z cB)
    | refine x_kp_2 ?_ (fun μ1 f1 n1 r1 w1 => k μ1 ?_ ?_ ?_ ?_ ?_)
    | refine And.intro (fun h => absurd h (by decide)) (fun _ => ?_)
    | refine And.intro (fun _ => ?_) (fun h => absurd (by decide) h)
    | refine And.intro (fun _ => ?_) (fun _ => ?_)
    | refine And.intro ?_ ?_
  all_goals (first | exact hB | (intro a b h; exact f1 a b (by omega) (by omega) (by omega) (by omega)) | (rw [n1, hB]; rfl) | (rw [n1]; exact r1) | (rw [n1]; exact w1) | (rw [n1, hB]; intro j hj; rw [show (((3 : Int) - 2 - j).toNat) = (((2 : Int) - 1 - j).toNat) by omega]; refine ⟨fun r hr => ⟨f1 _ _ (by omega) (by omega) (by omega) (by omega), f1 _ _ (by omega) (by omega) (by omega) (by omega)⟩, f1 _ _ (by omega) (by omega) (by omega) (by omega)⟩) | (trace_state; fail))
theorem x_keep_3 {l : Launch} {ν : am_N} {Q : Option am_V → am_N → Prop} (hB : ν 62 3 = 3) (k : ∀ μ' : am_N, (∀ a b, ¬(62 ≤ a ∧ a ≤ 77) → μ' a b = ν a b) → μ' 62 3 = (if ν 62 3 < 6 then ν 62 3 + 1 else 6) → (∀ r : Nat, r < 4 → μ' (64 + (μ' 62 3 - 1).toNat) r = ν 6 r ∧ μ' (71 + (μ' 62 3 - 1).toNat) r = ν 7 r) → μ' 77 (μ' 62 3 - 1).toNat = ν 1 1 → (∀ j : Nat, (j : Int) + 1 < μ' 62 3 → (∀ r : Nat, r < 4 → μ' (64 + (μ' 62 3 - 2 - j).toNat) r = ν (64 + (ν 62 3 - 1 - j).toNat) r ∧ μ' (71 + (μ' 62 3 - 2 - j).toNat) r = ν (71 + (ν 62 3 - 1 - j).toNat) r) ∧ μ' 77 (μ' 62 3 - 2 - j).toNat = ν 77 (ν 62 3 - 1 - j).toNat) → Q none μ') : am_Does l 46 [.inr (.inr 62), .inr (.inr 1)] ν Q := by
  refine am_Does_of (Nat.le_of_ble_eq_true rfl) (Nat.le_of_ble_eq_true rfl) (Nat.le_of_ble_eq_true rfl) ?_
  have cB : am_c (ν 62 3) ≠ am_c 6 := by rw [hB]; decide
  refine am_go (ct := fun pc => Nat.beq pc 13) am_oX4_keep 60 ?_
  conv => whnf
  repeat' first
    | (refine (?_ : am_wp _ _ _ _ _ _ _ _ _ _ _ _); conv => whnf)
    | (refine (?_ : am_sw _ _ _ _); conv => whnf)
    | refine And.intro trivial ?_
    | exact trivial
    | refine And.intro (fun _ => ?_) (fun z => absurd z cB)
    | refine x_kp_3 ?_ (fun μ1 f1 n1 r1 w1 => k μ1 ?_ ?_ ?_ ?_ ?_)
    | refine And.intro (fun h => absurd h (by decide)) (fun _ => ?_)
    | refine And.intro (fun _ => ?_) (fun h => absurd (by decide) h)
    | refine And.intro (fun _ => ?_) (fun _ => ?_)
    | refine And.intro ?_ ?_
  all_goals (first | exact hB | (intro a b h; exact f1 a b (by omega) (by omega) (by omega) (by omega)) | (rw [n1, hB]; rfl) | (rw [n1]; exact r1) | (rw [n1]; exact w1) | (rw [n1, hB]; intro j hj; rw [show (((4 : Int) - 2 - j).toNat) = (((3 : Int) - 1 - j).toNat) by omega]; refine ⟨fun r hr => ⟨f1 _ _ (by omega) (by omega) (by omega) (by omega), f1 _ _ (by omega) (by omega) (by omega) (by omega)⟩, f1 _ _ (by omega) (by omega) (by omega) (by omega)⟩) | (trace_state; fail))
theorem x_keep_4 {l : Launch} {ν : am_N} {Q : Option am_V → am_N → Prop} (hB : ν 62 3 = 4) (k : ∀ μ' : am_N, (∀ a b, ¬(62 ≤ a ∧ a ≤ 77) → μ' a b = ν a b) → μ' 62 3 = (if ν 62 3 < 6 then ν 62 3 + 1 else 6) → (∀ r : Nat, r < 4 → μ' (64 + (μ' 62 3 - 1).toNat) r = ν 6 r ∧ μ' (71 + (μ' 62 3 - 1).toNat) r = ν 7 r) → μ' 77 (μ' 62 3 - 1).toNat = ν 1 1 → (∀ j : Nat, (j : Int) + 1 < μ' 62 3 → (∀ r : Nat, r < 4 → μ' (64 + (μ' 62 3 - 2 - j).toNat) r = ν (64 + (ν 62 3 - 1 - j).toNat) r ∧ μ' (71 + (μ' 62 3 - 2 - j).toNat) r = ν (71 + (ν 62 3 - 1 - j).toNat) r) ∧ μ' 77 (μ' 62 3 - 2 - j).toNat = ν 77 (ν 62 3 - 1 - j).toNat) → Q none μ') : am_Does l 46 [.inr (.inr 62), .inr (.inr 1)] ν Q := by
  refine am_Does_of (Nat.le_of_ble_eq_true rfl) (Nat.le_of_ble_eq_true rfl) (Nat.le_of_ble_eq_true rfl) ?_
  have cB : am_c (ν 62 3) ≠ am_c 6 := by rw [hB]; decide
  refine am_go (ct := fun pc => Nat.beq pc 13) am_oX4_keep 60 ?_
  conv => whnf
  repeat' first
    | (refine (?_ : am_wp _ _ _ _ _ _ _ _ _ _ _ _); conv => whnf)
    | (refine (?_ : am_sw _ _ _ _); conv => whnf)
    | refine And.intro trivial ?_
    | exact trivial
    | refine And.intro (fun _ => ?_) (fun z => absurd z cB)
    | refine x_kp_4 ?_ (fun μ1 f1 n1 r1 w1 => k μ1 ?_ ?_ ?_ ?_ ?_)
    | refine And.intro (fun h => absurd h (by decide)) (fun _ => ?_)
    | refine And.intro (fun _ => ?_) (fun h => absurd (by decide) h)
    | refine And.intro (fun _ => ?_) (fun _ => ?_)
    | refine And.intro ?_ ?_
  all_goals (first | exact hB | (intro a b h; exact f1 a b (by omega) (by omega) (by omega) (by omega)) | (rw [n1, hB]; rfl) | (rw [n1]; exact r1) | (rw [n1]; exact w1) | (rw [n1, hB]; intro j hj; rw [show (((5 : Int) - 2 - j).toNat) = (((4 : Int) - 1 - j).toNat) by omega]; refine ⟨fun r hr => ⟨f1 _ _ (by omega) (by omega) (by omega) (by omega), f1 _ _ (by omega) (by omega) (by omega) (by omega)⟩, f1 _ _ (by omega) (by omega) (by omega) (by omega)⟩) | (trace_state; fail))
theorem x_keep_5 {l : Launch} {ν : am_N} {Q : Option am_V → am_N → Prop} (hB : ν 62 3 = 5) (k : ∀ μ' : am_N, (∀ a b, ¬(62 ≤ a ∧ a ≤ 77) → μ' a b = ν a b) → μ' 62 3 = (if ν 62 3 < 6 then ν 62 3 + 1 else 6) → (∀ r : Nat, r < 4 → μ' (64 + (μ' 62 3 - 1).toNat) r = ν 6 r ∧ μ' (71 + (μ' 62 3 - 1).toNat) r = ν 7 r) → μ' 77 (μ' 62 3 - 1).toNat = ν 1 1 → (∀ j : Nat, (j : Int) + 1 < μ' 62 3 → (∀ r : Nat, r < 4 → μ' (64 + (μ' 62 3 - 2 - j).toNat) r = ν (64 + (ν 62 3 - 1 - j).toNat) r ∧ μ' (71 + (μ' 62 3 - 2 - j).toNat) r = ν (71 + (ν 62 3 - 1 - j).toNat) r) ∧ μ' 77 (μ' 62 3 - 2 - j).toNat = ν 77 (ν 62 3 - 1 - j).toNat) → Q none μ') : am_Does l 46 [.inr (.inr 62), .inr (.inr 1)] ν Q := by
  refine am_Does_of (Nat.le_of_ble_eq_true rfl) (Nat.le_of_ble_eq_true rfl) (Nat.le_of_ble_eq_true rfl) ?_
  have cB : am_c (ν 62 3) ≠ am_c 6 := by rw [hB]; decide
  refine am_go (ct := fun pc => Nat.beq pc 13) am_oX4_keep 60 ?_
  conv => whnf
  repeat' first
    | (refine (?_ : am_wp _ _ _ _ _ _ _ _ _ _ _ _); conv => whnf)
    | (refine (?_ : am_sw _ _ _ _); conv => whnf)
    | refine And.intro trivial ?_
    | exact trivial
    | refine And.intro (fun _ => ?_) (fun z => absurd z cB)
    | refine x_kp_5 ?_ (fun μ1 f1 n1 r1 w1 => k μ1 ?_ ?_ ?_ ?_ ?_)
    | refine And.intro (fun h => absurd h (by decide)) (fun _ => ?_)
    | refine And.intro (fun _ => ?_) (fun h => absurd (by decide) h)
    | refine And.intro (fun _ => ?_) (fun _ => ?_)
    | refine And.intro ?_ ?_
  all_goals (first | exact hB | (intro a b h; exact f1 a b (by omega) (by omega) (by omega) (by omega)) | (rw [n1, hB]; rfl) | (rw [n1]; exact r1) | (rw [n1]; exact w1) | (rw [n1, hB]; intro j hj; rw [show (((6 : Int) - 2 - j).toNat) = (((5 : Int) - 1 - j).toNat) by omega]; refine ⟨fun r hr => ⟨f1 _ _ (by omega) (by omega) (by omega) (by omega), f1 _ _ (by omega) (by omega) (by omega) (by omega)⟩, f1 _ _ (by omega) (by omega) (by omega) (by omega)⟩) | (trace_state; fail))
theorem x_keep_6 {l : Launch} {ν : am_N} {Q : Option am_V → am_N → Prop} (hB : ν 62 3 = 6) (k : ∀ μ' : am_N, (∀ a b, ¬(62 ≤ a ∧ a ≤ 77) → μ' a b = ν a b) → μ' 62 3 = (if ν 62 3 < 6 then ν 62 3 + 1 else 6) → (∀ r : Nat, r < 4 → μ' (64 + (μ' 62 3 - 1).toNat) r = ν 6 r ∧ μ' (71 + (μ' 62 3 - 1).toNat) r = ν 7 r) → μ' 77 (μ' 62 3 - 1).toNat = ν 1 1 → (∀ j : Nat, (j : Int) + 1 < μ' 62 3 → (∀ r : Nat, r < 4 → μ' (64 + (μ' 62 3 - 2 - j).toNat) r = ν (64 + (ν 62 3 - 1 - j).toNat) r ∧ μ' (71 + (μ' 62 3 - 2 - j).toNat) r = ν (71 + (ν 62 3 - 1 - j).toNat) r) ∧ μ' 77 (μ' 62 3 - 2 - j).toNat = ν 77 (ν 62 3 - 1 - j).toNat) → Q none μ') : am_Does l 46 [.inr (.inr 62), .inr (.inr 1)] ν Q := by
  refine am_Does_of (Nat.le_of_ble_eq_true rfl) (Nat.le_of_ble_eq_true rfl) (Nat.le_of_ble_eq_true rfl) ?_
  have cB : am_c (ν 62 3) = am_c 6 := by rw [hB]
  refine am_go (ct := fun pc => Nat.beq pc 13) am_oX4_keep 60 ?_
  conv => whnf
  repeat' first
    | (refine (?_ : am_wp _ _ _ _ _ _ _ _ _ _ _ _); conv => whnf)
    | (refine (?_ : am_sw _ _ _ _); conv => whnf)
    | refine And.intro trivial ?_
    | exact trivial
    | ((with_reducible refine (?_ : am_Does _ 47 _ _ _)); refine x_lose (fun μ0 f0 n0 r0 => ?_))
    | refine And.intro (fun z => absurd cB z) (fun _ => ?_)
    | refine x_kp_5 ?_ (fun μ1 f1 n1 r1 w1 => k μ1 ?_ ?_ ?_ ?_ ?_)
    | refine And.intro (fun h => absurd h (by decide)) (fun _ => ?_)
    | refine And.intro (fun _ => ?_) (fun h => absurd (by decide) h)
    | refine And.intro (fun _ => ?_) (fun _ => ?_)
    | refine And.intro ?_ ?_
  all_goals (first | exact n0 | (intro a b h; rw [f1 a b (by omega) (by omega) (by omega) (by omega)]; exact f0 a b (by omega)) | (rw [n1, hB]; rfl) | (rw [n1]; intro r hr; rw [← f0 6 r (by decide), ← f0 7 r (by decide)]; exact r1 r hr) | (rw [n1, ← f0 1 1 (by decide)]; exact w1) | (rw [n1, hB]; intro j hj; obtain ⟨q1, q2⟩ := r0 (4 - j) (by omega); rw [show ((6 : Int) - 2 - j).toNat = 4 - j by omega, show ((6 : Int) - 1 - j).toNat = 4 - j + 1 by omega]; refine ⟨fun r hr => ?_, ?_⟩; (rw [f1 _ _ (by omega) (by omega) (by omega) (by omega), f1 _ _ (by omega) (by omega) (by omega) (by omega), show 64 + (4 - j + 1) = 65 + (4 - j) by omega, show 71 + (4 - j + 1) = 72 + (4 - j) by omega]; exact q1 r hr); (rw [f1 _ _ (by omega) (by omega) (by omega) (by omega)]; exact q2)) | (trace_state; fail))
theorem x_keep {l : Launch} {ν : am_N} {Q : Option am_V → am_N → Prop} (h0 : 0 ≤ ν 62 3) (h1 : ν 62 3 ≤ 6) (k : ∀ μ' : am_N, (∀ a b, ¬(62 ≤ a ∧ a ≤ 77) → μ' a b = ν a b) → μ' 62 3 = (if ν 62 3 < 6 then ν 62 3 + 1 else 6) → (∀ r : Nat, r < 4 → μ' (64 + (μ' 62 3 - 1).toNat) r = ν 6 r ∧ μ' (71 + (μ' 62 3 - 1).toNat) r = ν 7 r) → μ' 77 (μ' 62 3 - 1).toNat = ν 1 1 → (∀ j : Nat, (j : Int) + 1 < μ' 62 3 → (∀ r : Nat, r < 4 → μ' (64 + (μ' 62 3 - 2 - j).toNat) r = ν (64 + (ν 62 3 - 1 - j).toNat) r ∧ μ' (71 + (μ' 62 3 - 2 - j).toNat) r = ν (71 + (ν 62 3 - 1 - j).toNat) r) ∧ μ' 77 (μ' 62 3 - 2 - j).toNat = ν 77 (ν 62 3 - 1 - j).toNat) → Q none μ') : am_Does l 46 [.inr (.inr 62), .inr (.inr 1)] ν Q := by
  rcases (show ν 62 3 = 0 ∨ ν 62 3 = 1 ∨ ν 62 3 = 2 ∨ ν 62 3 = 3 ∨ ν 62 3 = 4 ∨ ν 62 3 = 5 ∨ ν 62 3 = 6 by omega) with e | e | e | e | e | e | e
  · exact x_keep_0 e k
  · exact x_keep_1 e k
  · exact x_keep_2 e k
  · exact x_keep_3 e k
  · exact x_keep_4 e k
  · exact x_keep_5 e k
  · exact x_keep_6 e k
theorem x_bring_1 {l : Launch} {ν : am_N} {Q : Option am_V → am_N → Prop} (hB : ν 62 3 = 1) (k : ∀ μ' : am_N, (∀ a b, a ≠ 6 → a ≠ 7 → ¬(a = 1 ∧ b = 1) → ¬(a = 62 ∧ b = 3) → μ' a b = ν a b) → μ' 62 3 = ν 62 3 - 1 → μ' 1 1 = ν 77 (ν 62 3 - 1).toNat → (∀ r : Nat, r < 4 → μ' 6 r = ν (64 + (ν 62 3 - 1).toNat) r ∧ μ' 7 r = ν (71 + (ν 62 3 - 1).toNat) r) → Q (some (.inl (ν 62 3 - 1))) μ') : am_Does l 48 [.inr (.inr 62), .inr (.inr 1)] ν Q := by
  refine am_Does_of (Nat.le_of_ble_eq_true rfl) (Nat.le_of_ble_eq_true rfl) (Nat.le_of_ble_eq_true rfl) ?_
  have c0 : am_c (ν 62 3) ≠ 0 := by rw [hB]; decide
  have kk := fun (μ' : am_N) (x : Int) a1 a2 a3 a4 (e : x = ν 62 3 - 1) => am_qe (k μ' a1 a2 a3 a4) e
  have lp21 : ∀ (m : Nat) (i : Int) (μ : am_N) , (∀ a b, a ≠ 6 → a ≠ 7 → ¬(a = 62 ∧ b = 3) → μ a b = ν a b) → μ 62 3 = 0 → 0 ≤ i → i ≤ 4 → (∀ b : Nat, (b : Int) < i → μ 6 b = ν 64 b ∧ μ 7 b = ν 71 b) → 4 - i < (m : Int) → am_AW l 0 (fun _ => 0) 48 Q 21 [some (.inr (.inr 62)), some (.inr (.inr 1)), some (.inl i)] [] μ := by
    intro m
    induction m with
    | zero =>
      intro i μ hv0 hv1 hv2 hv3 hv4 hm
      exfalso
      omega
    | succ m ih =>
      intro i μ hv0 hv1 hv2 hv3 hv4 hm
      have ci : am_c i = i := am_cR (by omega) (by omega)
      have c4 : am_c 4 = 4 := rfl
      have eB : μ 62 3 = 0 := hv1
      have eC : ∀ v, am_up μ 6 (am_c i).toNat v 62 3 = 0 := fun v => (am_upN (by decide)).trans eB
      refine am_go (ct := fun pc => Nat.beq pc 21) am_oX4_bring 300 ?_
      conv => whnf
      repeat' first
        | (refine (?_ : am_wp _ _ _ _ _ _ _ _ _ _ _ _); conv => whnf)
        | (refine (?_ : am_sw _ _ _ _); conv => whnf)
        | refine And.intro trivial ?_
        | exact trivial
        | ((with_reducible refine (?_ : ∀ j : Nat, (_ : Option Nat) = some j → _)); refine am_ab1 (a := 64) (by rw [eB]; rfl) ?_)
        | ((with_reducible refine (?_ : ∀ j : Nat, (_ : Option Nat) = some j → _)); refine am_ab1 (a := 71) (by rw [eB]; rfl) ?_)
        | ((with_reducible refine (?_ : ∀ j : Nat, (_ : Option Nat) = some j → _)); refine am_ab1 (a := 64) (by rw [eC]; rfl) ?_)
        | ((with_reducible refine (?_ : ∀ j : Nat, (_ : Option Nat) = some j → _)); refine am_ab1 (a := 71) (by rw [eC]; rfl) ?_)
        | refine kk _ _ ?_ ?_ ?_ ?_ ?_
        | refine And.intro (fun _ => ?_) (fun z => absurd z c0)
        | ((with_reducible refine (?_ : am_AW _ _ _ _ _ 21 _ _ _)); refine ih _ _ ?_ ?_ ?_ ?_ ?_ ?_)
        | refine And.intro (fun h => absurd h (by decide)) (fun _ => ?_)
        | refine And.intro (fun _ => ?_) (fun h => absurd (by decide) h)
        | refine And.intro (fun _ => ?_) (fun _ => ?_)
        | refine And.intro ?_ ?_
      all_goals (first | decide | omega | (simp only [ci, c4] at *; omega) | (intro a b h1 h2 h3; rw [am_upN h2, am_upN h1]; exact hv0 a b h1 h2 h3) | (rw [am_upN (by decide), am_upN (by decide)]; exact hv1) | (intro b hb; by_cases d : (b : Int) = i; (rw [am_upN (by decide), am_upS, if_pos ⟨rfl, by rw [ci]; omega⟩, am_upS, if_pos ⟨rfl, by rw [ci]; omega⟩, am_upN (by decide), hv0 _ _ (by first | decide | omega | exact fun z => absurd z.1 (by decide)) (by first | decide | omega | exact fun z => absurd z.1 (by decide)) (by first | decide | omega | exact fun z => absurd z.1 (by decide)), hv0 _ _ (by first | decide | omega | exact fun z => absurd z.1 (by decide)) (by first | decide | omega | exact fun z => absurd z.1 (by decide)) (by first | decide | omega | exact fun z => absurd z.1 (by decide)), ci, show i.toNat = b by omega]; exact ⟨rfl, rfl⟩); (rw [am_upN (by decide), am_upM (by rw [ci]; omega), am_upM (by rw [ci]; omega)]; exact hv4 b (by omega))) | (rw [eB]; decide) | (rw [eC]; decide) | (intro a b h1 h2 h3 h4; rw [am_uE h3]; exact hv0 a b h1 h2 h4) | (rw [am_upN (by decide), hv1, hB]; rfl) | (rw [am_upS, if_pos ⟨rfl, rfl⟩, hB, eB]; exact hv0 _ _ (by first | decide | omega | exact fun z => absurd z.1 (by decide)) (by first | decide | omega | exact fun z => absurd z.1 (by decide)) (by first | decide | omega | exact fun z => absurd z.1 (by decide))) | (intro b hb; rw [am_upN (by decide), am_upN (by decide), hB]; exact hv4 b (by simp only [ci, c4] at *; omega)) | (trace_state; fail))
  have lp21' : ∀ (i : Int) (μ : am_N) , (∀ a b, a ≠ 6 → a ≠ 7 → ¬(a = 62 ∧ b = 3) → μ a b = ν a b) → μ 62 3 = 0 → 0 ≤ i → i ≤ 4 → (∀ b : Nat, (b : Int) < i → μ 6 b = ν 64 b ∧ μ 7 b = ν 71 b) → am_AW l 0 (fun _ => 0) 48 Q 21 [some (.inr (.inr 62)), some (.inr (.inr 1)), some (.inl i)] [] μ := fun i μ hv0 hv1 hv2 hv3 hv4 => lp21 ((4 - i) + 1).toNat i μ hv0 hv1 hv2 hv3 hv4 (by omega)
  refine am_go (ct := fun pc => Nat.beq pc 21) am_oX4_bring 300 ?_
  conv => whnf
  repeat' first
    | (refine (?_ : am_wp _ _ _ _ _ _ _ _ _ _ _ _); conv => whnf)
    | (refine (?_ : am_sw _ _ _ _); conv => whnf)
    | refine And.intro trivial ?_
    | exact trivial
    | refine And.intro (fun _ => ?_) (fun z => absurd z c0)
    | ((with_reducible refine (?_ : am_AW _ _ _ _ _ 21 _ _ _)); refine lp21' _ _ ?_ ?_ ?_ ?_ ?_)
    | refine And.intro (fun h => absurd h (by decide)) (fun _ => ?_)
    | refine And.intro (fun _ => ?_) (fun h => absurd (by decide) h)
    | refine And.intro (fun _ => ?_) (fun _ => ?_)
    | refine And.intro ?_ ?_
  all_goals (first | decide | omega | (intro a b h1 h2 h3; exact am_uE h3) | (rw [am_upS, if_pos ⟨rfl, rfl⟩, hB]; rfl) | (intros; omega) | (trace_state; fail))
theorem x_bring_2 {l : Launch} {ν : am_N} {Q : Option am_V → am_N → Prop} (hB : ν 62 3 = 2) (k : ∀ μ' : am_N, (∀ a b, a ≠ 6 → a ≠ 7 → ¬(a = 1 ∧ b = 1) → ¬(a = 62 ∧ b = 3) → μ' a b = ν a b) → μ' 62 3 = ν 62 3 - 1 → μ' 1 1 = ν 77 (ν 62 3 - 1).toNat → (∀ r : Nat, r < 4 → μ' 6 r = ν (64 + (ν 62 3 - 1).toNat) r ∧ μ' 7 r = ν (71 + (ν 62 3 - 1).toNat) r) → Q (some (.inl (ν 62 3 - 1))) μ') : am_Does l 48 [.inr (.inr 62), .inr (.inr 1)] ν Q := by
  refine am_Does_of (Nat.le_of_ble_eq_true rfl) (Nat.le_of_ble_eq_true rfl) (Nat.le_of_ble_eq_true rfl) ?_
  have c0 : am_c (ν 62 3) ≠ 0 := by rw [hB]; decide
  have kk := fun (μ' : am_N) (x : Int) a1 a2 a3 a4 (e : x = ν 62 3 - 1) => am_qe (k μ' a1 a2 a3 a4) e
  have lp21 : ∀ (m : Nat) (i : Int) (μ : am_N) , (∀ a b, a ≠ 6 → a ≠ 7 → ¬(a = 62 ∧ b = 3) → μ a b = ν a b) → μ 62 3 = 1 → 0 ≤ i → i ≤ 4 → (∀ b : Nat, (b : Int) < i → μ 6 b = ν 65 b ∧ μ 7 b = ν 72 b) → 4 - i < (m : Int) → am_AW l 0 (fun _ => 0) 48 Q 21 [some (.inr (.inr 62)), some (.inr (.inr 1)), some (.inl i)] [] μ := by
    intro m
    induction m with
    | zero =>
      intro i μ hv0 hv1 hv2 hv3 hv4 hm
      exfalso
      omega
    | succ m ih =>
      intro i μ hv0 hv1 hv2 hv3 hv4 hm
      have ci : am_c i = i := am_cR (by omega) (by omega)
      have c4 : am_c 4 = 4 := rfl
      have eB : μ 62 3 = 1 := hv1
      have eC : ∀ v, am_up μ 6 (am_c i).toNat v 62 3 = 1 := fun v => (am_upN (by decide)).trans eB
      refine am_go (ct := fun pc => Nat.beq pc 21) am_oX4_bring 300 ?_
      conv => whnf
      repeat' first
        | (refine (?_ : am_wp _ _ _ _ _ _ _ _ _ _ _ _); conv => whnf)
        | (refine (?_ : am_sw _ _ _ _); conv => whnf)
        | refine And.intro trivial ?_
        | exact trivial
        | ((with_reducible refine (?_ : ∀ j : Nat, (_ : Option Nat) = some j → _)); refine am_ab1 (a := 65) (by rw [eB]; rfl) ?_)
        | ((with_reducible refine (?_ : ∀ j : Nat, (_ : Option Nat) = some j → _)); refine am_ab1 (a := 72) (by rw [eB]; rfl) ?_)
        | ((with_reducible refine (?_ : ∀ j : Nat, (_ : Option Nat) = some j → _)); refine am_ab1 (a := 65) (by rw [eC]; rfl) ?_)
        | ((with_reducible refine (?_ : ∀ j : Nat, (_ : Option Nat) = some j → _)); refine am_ab1 (a := 72) (by rw [eC]; rfl) ?_)
        | refine kk _ _ ?_ ?_ ?_ ?_ ?_
        | refine And.intro (fun _ => ?_) (fun z => absurd z c0)
        | ((with_reducible refine (?_ : am_AW _ _ _ _ _ 21 _ _ _)); refine ih _ _ ?_ ?_ ?_ ?_ ?_ ?_)
        | refine And.intro (fun h => absurd h (by decide)) (fun _ => ?_)
        | refine And.intro (fun _ => ?_) (fun h => absurd (by decide) h)
        | refine And.intro (fun _ => ?_) (fun _ => ?_)
        | refine And.intro ?_ ?_
      all_goals (first | decide | omega | (simp only [ci, c4] at *; omega) | (intro a b h1 h2 h3; rw [am_upN h2, am_upN h1]; exact hv0 a b h1 h2 h3) | (rw [am_upN (by decide), am_upN (by decide)]; exact hv1) | (intro b hb; by_cases d : (b : Int) = i; (rw [am_upN (by decide), am_upS, if_pos ⟨rfl, by rw [ci]; omega⟩, am_upS, if_pos ⟨rfl, by rw [ci]; omega⟩, am_upN (by decide), hv0 _ _ (by first | decide | omega | exact fun z => absurd z.1 (by decide)) (by first | decide | omega | exact fun z => absurd z.1 (by decide)) (by first | decide | omega | exact fun z => absurd z.1 (by decide)), hv0 _ _ (by first | decide | omega | exact fun z => absurd z.1 (by decide)) (by first | decide | omega | exact fun z => absurd z.1 (by decide)) (by first | decide | omega | exact fun z => absurd z.1 (by decide)), ci, show i.toNat = b by omega]; exact ⟨rfl, rfl⟩); (rw [am_upN (by decide), am_upM (by rw [ci]; omega), am_upM (by rw [ci]; omega)]; exact hv4 b (by omega))) | (rw [eB]; decide) | (rw [eC]; decide) | (intro a b h1 h2 h3 h4; rw [am_uE h3]; exact hv0 a b h1 h2 h4) | (rw [am_upN (by decide), hv1, hB]; rfl) | (rw [am_upS, if_pos ⟨rfl, rfl⟩, hB, eB]; exact hv0 _ _ (by first | decide | omega | exact fun z => absurd z.1 (by decide)) (by first | decide | omega | exact fun z => absurd z.1 (by decide)) (by first | decide | omega | exact fun z => absurd z.1 (by decide))) | (intro b hb; rw [am_upN (by decide), am_upN (by decide), hB]; exact hv4 b (by simp only [ci, c4] at *; omega)) | (trace_state; fail))
  have lp21' : ∀ (i : Int) (μ : am_N) , (∀ a b, a ≠ 6 → a ≠ 7 → ¬(a = 62 ∧ b = 3) → μ a b = ν a b) → μ 62 3 = 1 → 0 ≤ i → i ≤ 4 → (∀ b : Nat, (b : Int) < i → μ 6 b = ν 65 b ∧ μ 7 b = ν 72 b) → am_AW l 0 (fun _ => 0) 48 Q 21 [some (.inr (.inr 62)), some (.inr (.inr 1)), some (.inl i)] [] μ := fun i μ hv0 hv1 hv2 hv3 hv4 => lp21 ((4 - i) + 1).toNat i μ hv0 hv1 hv2 hv3 hv4 (by omega)
  refine am_go (ct := fun pc => Nat.beq pc 21) am_oX4_bring 300 ?_
  conv => whnf
  repeat' first
    | (refine (?_ : am_wp _ _ _ _ _ _ _ _ _ _ _ _); conv => whnf)
    | (refine (?_ : am_sw _ _ _ _); conv => whnf)
    | refine And.intro trivial ?_
    | exact trivial
    | refine And.intro (fun _ => ?_) (fun z => absurd z c0)
    | ((with_reducible refine (?_ : am_AW _ _ _ _ _ 21 _ _ _)); refine lp21' _ _ ?_ ?_ ?_ ?_ ?_)
    | refine And.intro (fun h => absurd h (by decide)) (fun _ => ?_)
    | refine And.intro (fun _ => ?_) (fun h => absurd (by decide) h)
    | refine And.intro (fun _ => ?_) (fun _ => ?_)
    | refine And.intro ?_ ?_
  all_goals (first | decide | omega | (intro a b h1 h2 h3; exact am_uE h3) | (rw [am_upS, if_pos ⟨rfl, rfl⟩, hB]; rfl) | (intros; omega) | (trace_state; fail))
theorem x_bring_3 {l : Launch} {ν : am_N} {Q : Option am_V → am_N → Prop} (hB : ν 62 3 = 3) (k : ∀ μ' : am_N, (∀ a b, a ≠ 6 → a ≠ 7 → ¬(a = 1 ∧ b = 1) → ¬(a = 62 ∧ b = 3) → μ' a b = ν a b) → μ' 62 3 = ν 62 3 - 1 → μ' 1 1 = ν 77 (ν 62 3 - 1).toNat → (∀ r : Nat, r < 4 → μ' 6 r = ν (64 + (ν 62 3 - 1).toNat) r ∧ μ' 7 r = ν (71 + (ν 62 3 - 1).toNat) r) → Q (some (.inl (ν 62 3 - 1))) μ') : am_Does l 48 [.inr (.inr 62), .inr (.inr 1)] ν Q := by
  refine am_Does_of (Nat.le_of_ble_eq_true rfl) (Nat.le_of_ble_eq_true rfl) (Nat.le_of_ble_eq_true rfl) ?_
  have c0 : am_c (ν 62 3) ≠ 0 := by rw [hB]; decide
  have kk := fun (μ' : am_N) (x : Int) a1 a2 a3 a4 (e : x = ν 62 3 - 1) => am_qe (k μ' a1 a2 a3 a4) e
  have lp21 : ∀ (m : Nat) (i : Int) (μ : am_N) , (∀ a b, a ≠ 6 → a ≠ 7 → ¬(a = 62 ∧ b = 3) → μ a b = ν a b) → μ 62 3 = 2 → 0 ≤ i → i ≤ 4 → (∀ b : Nat, (b : Int) < i → μ 6 b = ν 66 b ∧ μ 7 b = ν 73 b) → 4 - i < (m : Int) → am_AW l 0 (fun _ => 0) 48 Q 21 [some (.inr (.inr 62)), some (.inr (.inr 1)), some (.inl i)] [] μ := by
    intro m
    induction m with
    | zero =>
      intro i μ hv0 hv1 hv2 hv3 hv4 hm
      exfalso
      omega
    | succ m ih =>
      intro i μ hv0 hv1 hv2 hv3 hv4 hm
      have ci : am_c i = i := am_cR (by omega) (by omega)
      have c4 : am_c 4 = 4 := rfl
      have eB : μ 62 3 = 2 := hv1
      have eC : ∀ v, am_up μ 6 (am_c i).toNat v 62 3 = 2 := fun v => (am_upN (by decide)).trans eB
      refine am_go (ct := fun pc => Nat.beq pc 21) am_oX4_bring 300 ?_
      conv => whnf
      repeat' first
        | (refine (?_ : am_wp _ _ _ _ _ _ _ _ _ _ _ _); conv => whnf)
        | (refine (?_ : am_sw _ _ _ _); conv => whnf)
        | refine And.intro trivial ?_
        | exact trivial
        | ((with_reducible refine (?_ : ∀ j : Nat, (_ : Option Nat) = some j → _)); refine am_ab1 (a := 66) (by rw [eB]; rfl) ?_)
        | ((with_reducible refine (?_ : ∀ j : Nat, (_ : Option Nat) = some j → _)); refine am_ab1 (a := 73) (by rw [eB]; rfl) ?_)
        | ((with_reducible refine (?_ : ∀ j : Nat, (_ : Option Nat) = some j → _)); refine am_ab1 (a := 66) (by rw [eC]; rfl) ?_)
        | ((with_reducible refine (?_ : ∀ j : Nat, (_ : Option Nat) = some j → _)); refine am_ab1 (a := 73) (by rw [eC]; rfl) ?_)
        | refine kk _ _ ?_ ?_ ?_ ?_ ?_
        | refine And.intro (fun _ => ?_) (fun z => absurd z c0)
        | ((with_reducible refine (?_ : am_AW _ _ _ _ _ 21 _ _ _)); refine ih _ _ ?_ ?_ ?_ ?_ ?_ ?_)
        | refine And.intro (fun h => absurd h (by decide)) (fun _ => ?_)
        | refine And.intro (fun _ => ?_) (fun h => absurd (by decide) h)
        | refine And.intro (fun _ => ?_) (fun _ => ?_)
        | refine And.intro ?_ ?_
      all_goals (first | decide | omega | (simp only [ci, c4] at *; omega) | (intro a b h1 h2 h3; rw [am_upN h2, am_upN h1]; exact hv0 a b h1 h2 h3) | (rw [am_upN (by decide), am_upN (by decide)]; exact hv1) | (intro b hb; by_cases d : (b : Int) = i; (rw [am_upN (by decide), am_upS, if_pos ⟨rfl, by rw [ci]; omega⟩, am_upS, if_pos ⟨rfl, by rw [ci]; omega⟩, am_upN (by decide), hv0 _ _ (by first | decide | omega | exact fun z => absurd z.1 (by decide)) (by first | decide | omega | exact fun z => absurd z.1 (by decide)) (by first | decide | omega | exact fun z => absurd z.1 (by decide)), hv0 _ _ (by first | decide | omega | exact fun z => absurd z.1 (by decide)) (by first | decide | omega | exact fun z => absurd z.1 (by decide)) (by first | decide | omega | exact fun z => absurd z.1 (by decide)), ci, show i.toNat = b by omega]; exact ⟨rfl, rfl⟩); (rw [am_upN (by decide), am_upM (by rw [ci]; omega), am_upM (by rw [ci]; omega)]; exact hv4 b (by omega))) | (rw [eB]; decide) | (rw [eC]; decide) | (intro a b h1 h2 h3 h4; rw [am_uE h3]; exact hv0 a b h1 h2 h4) | (rw [am_upN (by decide), hv1, hB]; rfl) | (rw [am_upS, if_pos ⟨rfl, rfl⟩, hB, eB]; exact hv0 _ _ (by first | decide | omega | exact fun z => absurd z.1 (by decide)) (by first | decide | omega | exact fun z => absurd z.1 (by decide)) (by first | decide | omega | exact fun z => absurd z.1 (by decide))) | (intro b hb; rw [am_upN (by decide), am_upN (by decide), hB]; exact hv4 b (by simp only [ci, c4] at *; omega)) | (trace_state; fail))
  have lp21' : ∀ (i : Int) (μ : am_N) , (∀ a b, a ≠ 6 → a ≠ 7 → ¬(a = 62 ∧ b = 3) → μ a b = ν a b) → μ 62 3 = 2 → 0 ≤ i → i ≤ 4 → (∀ b : Nat, (b : Int) < i → μ 6 b = ν 66 b ∧ μ 7 b = ν 73 b) → am_AW l 0 (fun _ => 0) 48 Q 21 [some (.inr (.inr 62)), some (.inr (.inr 1)), some (.inl i)] [] μ := fun i μ hv0 hv1 hv2 hv3 hv4 => lp21 ((4 - i) + 1).toNat i μ hv0 hv1 hv2 hv3 hv4 (by omega)
  refine am_go (ct := fun pc => Nat.beq pc 21) am_oX4_bring 300 ?_
  conv => whnf
  repeat' first
    | (refine (?_ : am_wp _ _ _ _ _ _ _ _ _ _ _ _); conv => whnf)
    | (refine (?_ : am_sw _ _ _ _); conv => whnf)
    | refine And.intro trivial ?_
    | exact trivial
    | refine And.intro (fun _ => ?_) (fun z => absurd z c0)
    | ((with_reducible refine (?_ : am_AW _ _ _ _ _ 21 _ _ _)); refine lp21' _ _ ?_ ?_ ?_ ?_ ?_)
    | refine And.intro (fun h => absurd h (by decide)) (fun _ => ?_)
    | refine And.intro (fun _ => ?_) (fun h => absurd (by decide) h)
    | refine And.intro (fun _ => ?_) (fun _ => ?_)
    | refine And.intro ?_ ?_
  all_goals (first | decide | omega | (intro a b h1 h2 h3; exact am_uE h3) | (rw [am_upS, if_pos ⟨rfl, rfl⟩, hB]; rfl) | (intros; omega) | (trace_state; fail))
theorem x_bring_4 {l : Launch} {ν : am_N} {Q : Option am_V → am_N → Prop} (hB : ν 62 3 = 4) (k : ∀ μ' : am_N, (∀ a b, a ≠ 6 → a ≠ 7 → ¬(a = 1 ∧ b = 1) → ¬(a = 62 ∧ b = 3) → μ' a b = ν a b) → μ' 62 3 = ν 62 3 - 1 → μ' 1 1 = ν 77 (ν 62 3 - 1).toNat → (∀ r : Nat, r < 4 → μ' 6 r = ν (64 + (ν 62 3 - 1).toNat) r ∧ μ' 7 r = ν (71 + (ν 62 3 - 1).toNat) r) → Q (some (.inl (ν 62 3 - 1))) μ') : am_Does l 48 [.inr (.inr 62), .inr (.inr 1)] ν Q := by
  refine am_Does_of (Nat.le_of_ble_eq_true rfl) (Nat.le_of_ble_eq_true rfl) (Nat.le_of_ble_eq_true rfl) ?_
  have c0 : am_c (ν 62 3) ≠ 0 := by rw [hB]; decide
  have kk := fun (μ' : am_N) (x : Int) a1 a2 a3 a4 (e : x = ν 62 3 - 1) => am_qe (k μ' a1 a2 a3 a4) e
  have lp21 : ∀ (m : Nat) (i : Int) (μ : am_N) , (∀ a b, a ≠ 6 → a ≠ 7 → ¬(a = 62 ∧ b = 3) → μ a b = ν a b) → μ 62 3 = 3 → 0 ≤ i → i ≤ 4 → (∀ b : Nat, (b : Int) < i → μ 6 b = ν 67 b ∧ μ 7 b = ν 74 b) → 4 - i < (m : Int) → am_AW l 0 (fun _ => 0) 48 Q 21 [some (.inr (.inr 62)), some (.inr (.inr 1)), some (.inl i)] [] μ := by
    intro m
    induction m with
    | zero =>
      intro i μ hv0 hv1 hv2 hv3 hv4 hm
      exfalso
      omega
    | succ m ih =>
      intro i μ hv0 hv1 hv2 hv3 hv4 hm
      have ci : am_c i = i := am_cR (by omega) (by omega)
      have c4 : am_c 4 = 4 := rfl
      have eB : μ 62 3 = 3 := hv1
      have eC : ∀ v, am_up μ 6 (am_c i).toNat v 62 3 = 3 := fun v => (am_upN (by decide)).trans eB
      refine am_go (ct := fun pc => Nat.beq pc 21) am_oX4_bring 300 ?_
      conv => whnf
      repeat' first
        | (refine (?_ : am_wp _ _ _ _ _ _ _ _ _ _ _ _); conv => whnf)
        | (refine (?_ : am_sw _ _ _ _); conv => whnf)
        | refine And.intro trivial ?_
        | exact trivial
        | ((with_reducible refine (?_ : ∀ j : Nat, (_ : Option Nat) = some j → _)); refine am_ab1 (a := 67) (by rw [eB]; rfl) ?_)
        | ((with_reducible refine (?_ : ∀ j : Nat, (_ : Option Nat) = some j → _)); refine am_ab1 (a := 74) (by rw [eB]; rfl) ?_)
        | ((with_reducible refine (?_ : ∀ j : Nat, (_ : Option Nat) = some j → _)); refine am_ab1 (a := 67) (by rw [eC]; rfl) ?_)
        | ((with_reducible refine (?_ : ∀ j : Nat, (_ : Option Nat) = some j → _)); refine am_ab1 (a := 74) (by rw [eC]; rfl) ?_)
        | refine kk _ _ ?_ ?_ ?_ ?_ ?_
        | refine And.intro (fun _ => ?_) (fun z => absurd z c0)
        | ((with_reducible refine (?_ : am_AW _ _ _ _ _ 21 _ _ _)); refine ih _ _ ?_ ?_ ?_ ?_ ?_ ?_)
        | refine And.intro (fun h => absurd h (by decide)) (fun _ => ?_)
        | refine And.intro (fun _ => ?_) (fun h => absurd (by decide) h)
        | refine And.intro (fun _ => ?_) (fun _ => ?_)
        | refine And.intro ?_ ?_
      all_goals (first | decide | omega | (simp only [ci, c4] at *; omega) | (intro a b h1 h2 h3; rw [am_upN h2, am_upN h1]; exact hv0 a b h1 h2 h3) | (rw [am_upN (by decide), am_upN (by decide)]; exact hv1) | (intro b hb; by_cases d : (b : Int) = i; (rw [am_upN (by decide), am_upS, if_pos ⟨rfl, by rw [ci]; omega⟩, am_upS, if_pos ⟨rfl, by rw [ci]; omega⟩, am_upN (by decide), hv0 _ _ (by first | decide | omega | exact fun z => absurd z.1 (by decide)) (by first | decide | omega | exact fun z => absurd z.1 (by decide)) (by first | decide | omega | exact fun z => absurd z.1 (by decide)), hv0 _ _ (by first | decide | omega | exact fun z => absurd z.1 (by decide)) (by first | decide | omega | exact fun z => absurd z.1 (by decide)) (by first | decide | omega | exact fun z => absurd z.1 (by decide)), ci, show i.toNat = b by omega]; exact ⟨rfl, rfl⟩); (rw [am_upN (by decide), am_upM (by rw [ci]; omega), am_upM (by rw [ci]; omega)]; exact hv4 b (by omega))) | (rw [eB]; decide) | (rw [eC]; decide) | (intro a b h1 h2 h3 h4; rw [am_uE h3]; exact hv0 a b h1 h2 h4) | (rw [am_upN (by decide), hv1, hB]; rfl) | (rw [am_upS, if_pos ⟨rfl, rfl⟩, hB, eB]; exact hv0 _ _ (by first | decide | omega | exact fun z => absurd z.1 (by decide)) (by first | decide | omega | exact fun z => absurd z.1 (by decide)) (by first | decide | omega | exact fun z => absurd z.1 (by decide))) | (intro b hb; rw [am_upN (by decide), am_upN (by decide), hB]; exact hv4 b (by simp only [ci, c4] at *; omega)) | (trace_state; fail))
  have lp21' : ∀ (i : Int) (μ : am_N) , (∀ a b, a ≠ 6 → a ≠ 7 → ¬(a = 62 ∧ b = 3) → μ a b = ν a b) → μ 62 3 = 3 → 0 ≤ i → i ≤ 4 → (∀ b : Nat, (b : Int) < i → μ 6 b = ν 67 b ∧ μ 7 b = ν 74 b) → am_AW l 0 (fun _ => 0) 48 Q 21 [some (.inr (.inr 62)), some (.inr (.inr 1)), some (.inl i)] [] μ := fun i μ hv0 hv1 hv2 hv3 hv4 => lp21 ((4 - i) + 1).toNat i μ hv0 hv1 hv2 hv3 hv4 (by omega)
  refine am_go (ct := fun pc => Nat.beq pc 21) am_oX4_bring 300 ?_
  conv => whnf
  repeat' first
    | (refine (?_ : am_wp _ _ _ _ _ _ _ _ _ _ _ _); conv => whnf)
    | (refine (?_ : am_sw _ _ _ _); conv => whnf)
    | refine And.intro trivial ?_
    | exact trivial
    | refine And.intro (fun _ => ?_) (fun z => absurd z c0)
    | ((with_reducible refine (?_ : am_AW _ _ _ _ _ 21 _ _ _)); refine lp21' _ _ ?_ ?_ ?_ ?_ ?_)
    | refine And.intro (fun h => absurd h (by decide)) (fun _ => ?_)
    | refine And.intro (fun _ => ?_) (fun h => absurd (by decide) h)
    | refine And.intro (fun _ => ?_) (fun _ => ?_)
    | refine And.intro ?_ ?_
  all_goals (first | decide | omega | (intro a b h1 h2 h3; exact am_uE h3) | (rw [am_upS, if_pos ⟨rfl, rfl⟩, hB]; rfl) | (intros; omega) | (trace_state; fail))
theorem x_bring_5 {l : Launch} {ν : am_N} {Q : Option am_V → am_N → Prop} (hB : ν 62 3 = 5) (k : ∀ μ' : am_N, (∀ a b, a ≠ 6 → a ≠ 7 → ¬(a = 1 ∧ b = 1) → ¬(a = 62 ∧ b = 3) → μ' a b = ν a b) → μ' 62 3 = ν 62 3 - 1 → μ' 1 1 = ν 77 (ν 62 3 - 1).toNat → (∀ r : Nat, r < 4 → μ' 6 r = ν (64 + (ν 62 3 - 1).toNat) r ∧ μ' 7 r = ν (71 + (ν 62 3 - 1).toNat) r) → Q (some (.inl (ν 62 3 - 1))) μ') : am_Does l 48 [.inr (.inr 62), .inr (.inr 1)] ν Q := by
  refine am_Does_of (Nat.le_of_ble_eq_true rfl) (Nat.le_of_ble_eq_true rfl) (Nat.le_of_ble_eq_true rfl) ?_
  have c0 : am_c (ν 62 3) ≠ 0 := by rw [hB]; decide
  have kk := fun (μ' : am_N) (x : Int) a1 a2 a3 a4 (e : x = ν 62 3 - 1) => am_qe (k μ' a1 a2 a3 a4) e
  have lp21 : ∀ (m : Nat) (i : Int) (μ : am_N) , (∀ a b, a ≠ 6 → a ≠ 7 → ¬(a = 62 ∧ b = 3) → μ a b = ν a b) → μ 62 3 = 4 → 0 ≤ i → i ≤ 4 → (∀ b : Nat, (b : Int) < i → μ 6 b = ν 68 b ∧ μ 7 b = ν 75 b) → 4 - i < (m : Int) → am_AW l 0 (fun _ => 0) 48 Q 21 [some (.inr (.inr 62)), some (.inr (.inr 1)), some (.inl i)] [] μ := by
    intro m
    induction m with
    | zero =>
      intro i μ hv0 hv1 hv2 hv3 hv4 hm
      exfalso
      omega
    | succ m ih =>
      intro i μ hv0 hv1 hv2 hv3 hv4 hm
      have ci : am_c i = i := am_cR (by omega) (by omega)
      have c4 : am_c 4 = 4 := rfl
      have eB : μ 62 3 = 4 := hv1
      have eC : ∀ v, am_up μ 6 (am_c i).toNat v 62 3 = 4 := fun v => (am_upN (by decide)).trans eB
      refine am_go (ct := fun pc => Nat.beq pc 21) am_oX4_bring 300 ?_
      conv => whnf
      repeat' first
        | (refine (?_ : am_wp _ _ _ _ _ _ _ _ _ _ _ _); conv => whnf)
        | (refine (?_ : am_sw _ _ _ _); conv => whnf)
        | refine And.intro trivial ?_
        | exact trivial
        | ((with_reducible refine (?_ : ∀ j : Nat, (_ : Option Nat) = some j → _)); refine am_ab1 (a := 68) (by rw [eB]; rfl) ?_)
        | ((with_reducible refine (?_ : ∀ j : Nat, (_ : Option Nat) = some j → _)); refine am_ab1 (a := 75) (by rw [eB]; rfl) ?_)
        | ((with_reducible refine (?_ : ∀ j : Nat, (_ : Option Nat) = some j → _)); refine am_ab1 (a := 68) (by rw [eC]; rfl) ?_)
        | ((with_reducible refine (?_ : ∀ j : Nat, (_ : Option Nat) = some j → _)); refine am_ab1 (a := 75) (by rw [eC]; rfl) ?_)
        | refine kk _ _ ?_ ?_ ?_ ?_ ?_
        | refine And.intro (fun _ => ?_) (fun z => absurd z c0)
        | ((with_reducible refine (?_ : am_AW _ _ _ _ _ 21 _ _ _)); refine ih _ _ ?_ ?_ ?_ ?_ ?_ ?_)
        | refine And.intro (fun h => absurd h (by decide)) (fun _ => ?_)
        | refine And.intro (fun _ => ?_) (fun h => absurd (by decide) h)
        | refine And.intro (fun _ => ?_) (fun _ => ?_)
        | refine And.intro ?_ ?_
      all_goals (first | decide | omega | (simp only [ci, c4] at *; omega) | (intro a b h1 h2 h3; rw [am_upN h2, am_upN h1]; exact hv0 a b h1 h2 h3) | (rw [am_upN (by decide), am_upN (by decide)]; exact hv1) | (intro b hb; by_cases d : (b : Int) = i; (rw [am_upN (by decide), am_upS, if_pos ⟨rfl, by rw [ci]; omega⟩, am_upS, if_pos ⟨rfl, by rw [ci]; omega⟩, am_upN (by decide), hv0 _ _ (by first | decide | omega | exact fun z => absurd z.1 (by decide)) (by first | decide | omega | exact fun z => absurd z.1 (by decide)) (by first | decide | omega | exact fun z => absurd z.1 (by decide)), hv0 _ _ (by first | decide | omega | exact fun z => absurd z.1 (by decide)) (by first | decide | omega | exact fun z => absurd z.1 (by decide)) (by first | decide | omega | exact fun z => absurd z.1 (by decide)), ci, show i.toNat = b by omega]; exact ⟨rfl, rfl⟩); (rw [am_upN (by decide), am_upM (by rw [ci]; omega), am_upM (by rw [ci]; omega)]; exact hv4 b (by omega))) | (rw [eB]; decide) | (rw [eC]; decide) | (intro a b h1 h2 h3 h4; rw [am_uE h3]; exact hv0 a b h1 h2 h4) | (rw [am_upN (by decide), hv1, hB]; rfl) | (rw [am_upS, if_pos ⟨rfl, rfl⟩, hB, eB]; exact hv0 _ _ (by first | decide | omega | exact fun z => absurd z.1 (by decide)) (by first | decide | omega | exact fun z => absurd z.1 (by decide)) (by first | decide | omega | exact fun z => absurd z.1 (by decide))) | (intro b hb; rw [am_upN (by decide), am_upN (by decide), hB]; exact hv4 b (by simp only [ci, c4] at *; omega)) | (trace_state; fail))
  have lp21' : ∀ (i : Int) (μ : am_N) , (∀ a b, a ≠ 6 → a ≠ 7 → ¬(a = 62 ∧ b = 3) → μ a b = ν a b) → μ 62 3 = 4 → 0 ≤ i → i ≤ 4 → (∀ b : Nat, (b : Int) < i → μ 6 b = ν 68 b ∧ μ 7 b = ν 75 b) → am_AW l 0 (fun _ => 0) 48 Q 21 [some (.inr (.inr 62)), some (.inr (.inr 1)), some (.inl i)] [] μ := fun i μ hv0 hv1 hv2 hv3 hv4 => lp21 ((4 - i) + 1).toNat i μ hv0 hv1 hv2 hv3 hv4 (by omega)
  refine am_go (ct := fun pc => Nat.beq pc 21) am_oX4_bring 300 ?_
  conv => whnf
  repeat' first
    | (refine (?_ : am_wp _ _ _ _ _ _ _ _ _ _ _ _); conv => whnf)
    | (refine (?_ : am_sw _ _ _ _); conv => whnf)
    | refine And.intro trivial ?_
    | exact trivial
    | refine And.intro (fun _ => ?_) (fun z => absurd z c0)
    | ((with_reducible refine (?_ : am_AW _ _ _ _ _ 21 _ _ _)); refine lp21' _ _ ?_ ?_ ?_ ?_ ?_)
    | refine And.intro (fun h => absurd h (by decide)) (fun _ => ?_)
    | refine And.intro (fun _ => ?_) (fun h => absurd (by decide) h)
    | refine And.intro (fun _ => ?_) (fun _ => ?_)
    | refine And.intro ?_ ?_
  all_goals (first | decide | omega | (intro a b h1 h2 h3; exact am_uE h3) | (rw [am_upS, if_pos ⟨rfl, rfl⟩, hB]; rfl) | (intros; omega) | (trace_state; fail))
theorem x_bring_6 {l : Launch} {ν : am_N} {Q : Option am_V → am_N → Prop} (hB : ν 62 3 = 6) (k : ∀ μ' : am_N, (∀ a b, a ≠ 6 → a ≠ 7 → ¬(a = 1 ∧ b = 1) → ¬(a = 62 ∧ b = 3) → μ' a b = ν a b) → μ' 62 3 = ν 62 3 - 1 → μ' 1 1 = ν 77 (ν 62 3 - 1).toNat → (∀ r : Nat, r < 4 → μ' 6 r = ν (64 + (ν 62 3 - 1).toNat) r ∧ μ' 7 r = ν (71 + (ν 62 3 - 1).toNat) r) → Q (some (.inl (ν 62 3 - 1))) μ') : am_Does l 48 [.inr (.inr 62), .inr (.inr 1)] ν Q := by
  refine am_Does_of (Nat.le_of_ble_eq_true rfl) (Nat.le_of_ble_eq_true rfl) (Nat.le_of_ble_eq_true rfl) ?_
  have c0 : am_c (ν 62 3) ≠ 0 := by rw [hB]; decide
  have kk := fun (μ' : am_N) (x : Int) a1 a2 a3 a4 (e : x = ν 62 3 - 1) => am_qe (k μ' a1 a2 a3 a4) e
  have lp21 : ∀ (m : Nat) (i : Int) (μ : am_N) , (∀ a b, a ≠ 6 → a ≠ 7 → ¬(a = 62 ∧ b = 3) → μ a b = ν a b) → μ 62 3 = 5 → 0 ≤ i → i ≤ 4 → (∀ b : Nat, (b : Int) < i → μ 6 b = ν 69 b ∧ μ 7 b = ν 76 b) → 4 - i < (m : Int) → am_AW l 0 (fun _ => 0) 48 Q 21 [some (.inr (.inr 62)), some (.inr (.inr 1)), some (.inl i)] [] μ := by
    intro m
    induction m with
    | zero =>
      intro i μ hv0 hv1 hv2 hv3 hv4 hm
      exfalso
      omega
    | succ m ih =>
      intro i μ hv0 hv1 hv2 hv3 hv4 hm
      have ci : am_c i = i := am_cR (by omega) (by omega)
      have c4 : am_c 4 = 4 := rfl
      have eB : μ 62 3 = 5 := hv1
      have eC : ∀ v, am_up μ 6 (am_c i).toNat v 62 3 = 5 := fun v => (am_upN (by decide)).trans eB
      refine am_go (ct := fun pc => Nat.beq pc 21) am_oX4_bring 300 ?_
      conv => whnf
      repeat' first
        | (refine (?_ : am_wp _ _ _ _ _ _ _ _ _ _ _ _); conv => whnf)
        | (refine (?_ : am_sw _ _ _ _); conv => whnf)
        | refine And.intro trivial ?_
        | exact trivial
        | ((with_reducible refine (?_ : ∀ j : Nat, (_ : Option Nat) = some j → _)); refine am_ab1 (a := 69) (by rw [eB]; rfl) ?_)
        | ((with_reducible refine (?_ : ∀ j : Nat, (_ : Option Nat) = some j → _)); refine am_ab1 (a := 76) (by rw [eB]; rfl) ?_)
        | ((with_reducible refine (?_ : ∀ j : Nat, (_ : Option Nat) = some j → _)); refine am_ab1 (a := 69) (by rw [eC]; rfl) ?_)
        | ((with_reducible refine (?_ : ∀ j : Nat, (_ : Option Nat) = some j → _)); refine am_ab1 (a := 76) (by rw [eC]; rfl) ?_)
        | refine kk _ _ ?_ ?_ ?_ ?_ ?_
        | refine And.intro (fun _ => ?_) (fun z => absurd z c0)
        | ((with_reducible refine (?_ : am_AW _ _ _ _ _ 21 _ _ _)); refine ih _ _ ?_ ?_ ?_ ?_ ?_ ?_)
        | refine And.intro (fun h => absurd h (by decide)) (fun _ => ?_)
        | refine And.intro (fun _ => ?_) (fun h => absurd (by decide) h)
        | refine And.intro (fun _ => ?_) (fun _ => ?_)
        | refine And.intro ?_ ?_
      all_goals (first | decide | omega | (simp only [ci, c4] at *; omega) | (intro a b h1 h2 h3; rw [am_upN h2, am_upN h1]; exact hv0 a b h1 h2 h3) | (rw [am_upN (by decide), am_upN (by decide)]; exact hv1) | (intro b hb; by_cases d : (b : Int) = i; (rw [am_upN (by decide), am_upS, if_pos ⟨rfl, by rw [ci]; omega⟩, am_upS, if_pos ⟨rfl, by rw [ci]; omega⟩, am_upN (by decide), hv0 _ _ (by first | decide | omega | exact fun z => absurd z.1 (by decide)) (by first | decide | omega | exact fun z => absurd z.1 (by decide)) (by first | decide | omega | exact fun z => absurd z.1 (by decide)), hv0 _ _ (by first | decide | omega | exact fun z => absurd z.1 (by decide)) (by first | decide | omega | exact fun z => absurd z.1 (by decide)) (by first | decide | omega | exact fun z => absurd z.1 (by decide)), ci, show i.toNat = b by omega]; exact ⟨rfl, rfl⟩); (rw [am_upN (by decide), am_upM (by rw [ci]; omega), am_upM (by rw [ci]; omega)]; exact hv4 b (by omega))) | (rw [eB]; decide) | (rw [eC]; decide) | (intro a b h1 h2 h3 h4; rw [am_uE h3]; exact hv0 a b h1 h2 h4) | (rw [am_upN (by decide), hv1, hB]; rfl) | (rw [am_upS, if_pos ⟨rfl, rfl⟩, hB, eB]; exact hv0 _ _ (by first | decide | omega | exact fun z => absurd z.1 (by decide)) (by first | decide | omega | exact fun z => absurd z.1 (by decide)) (by first | decide | omega | exact fun z => absurd z.1 (by decide))) | (intro b hb; rw [am_upN (by decide), am_upN (by decide), hB]; exact hv4 b (by simp only [ci, c4] at *; omega)) | (trace_state; fail))
  have lp21' : ∀ (i : Int) (μ : am_N) , (∀ a b, a ≠ 6 → a ≠ 7 → ¬(a = 62 ∧ b = 3) → μ a b = ν a b) → μ 62 3 = 5 → 0 ≤ i → i ≤ 4 → (∀ b : Nat, (b : Int) < i → μ 6 b = ν 69 b ∧ μ 7 b = ν 76 b) → am_AW l 0 (fun _ => 0) 48 Q 21 [some (.inr (.inr 62)), some (.inr (.inr 1)), some (.inl i)] [] μ := fun i μ hv0 hv1 hv2 hv3 hv4 => lp21 ((4 - i) + 1).toNat i μ hv0 hv1 hv2 hv3 hv4 (by omega)
  refine am_go (ct := fun pc => Nat.beq pc 21) am_oX4_bring 300 ?_
  conv => whnf
  repeat' first
    | (refine (?_ : am_wp _ _ _ _ _ _ _ _ _ _ _ _); conv => whnf)
    | (refine (?_ : am_sw _ _ _ _); conv => whnf)
    | refine And.intro trivial ?_
    | exact trivial
    | refine And.intro (fun _ => ?_) (fun z => absurd z c0)
    | ((with_reducible refine (?_ : am_AW _ _ _ _ _ 21 _ _ _)); refine lp21' _ _ ?_ ?_ ?_ ?_ ?_)
    | refine And.intro (fun h => absurd h (by decide)) (fun _ => ?_)
    | refine And.intro (fun _ => ?_) (fun h => absurd (by decide) h)
    | refine And.intro (fun _ => ?_) (fun _ => ?_)
    | refine And.intro ?_ ?_
  all_goals (first | decide | omega | (intro a b h1 h2 h3; exact am_uE h3) | (rw [am_upS, if_pos ⟨rfl, rfl⟩, hB]; rfl) | (intros; omega) | (trace_state; fail))
theorem x_bring {l : Launch} {ν : am_N} {Q : Option am_V → am_N → Prop} (h0 : 0 < ν 62 3) (h1 : ν 62 3 ≤ 6) (k : ∀ μ' : am_N, (∀ a b, a ≠ 6 → a ≠ 7 → ¬(a = 1 ∧ b = 1) → ¬(a = 62 ∧ b = 3) → μ' a b = ν a b) → μ' 62 3 = ν 62 3 - 1 → μ' 1 1 = ν 77 (ν 62 3 - 1).toNat → (∀ r : Nat, r < 4 → μ' 6 r = ν (64 + (ν 62 3 - 1).toNat) r ∧ μ' 7 r = ν (71 + (ν 62 3 - 1).toNat) r) → Q (some (.inl (ν 62 3 - 1))) μ') : am_Does l 48 [.inr (.inr 62), .inr (.inr 1)] ν Q := by
  rcases (show ν 62 3 = 1 ∨ ν 62 3 = 2 ∨ ν 62 3 = 3 ∨ ν 62 3 = 4 ∨ ν 62 3 = 5 ∨ ν 62 3 = 6 by omega) with e | e | e | e | e | e
  · exact x_bring_1 e k
  · exact x_bring_2 e k
  · exact x_bring_3 e k
  · exact x_bring_4 e k
  · exact x_bring_5 e k
  · exact x_bring_6 e k
theorem x_keepsRun {l : Launch} {ν : am_N} {Q : Option am_V → am_N → Prop} (h0 : 0 ≤ ν 83 33) (h1 : ν 83 33 ≤ 6) (k : ∀ μ' : am_N, (∀ a b, a ≠ 101 → a ≠ 102 → a ≠ 103 → ¬(a = 83 ∧ b = 33) → μ' a b = ν a b) → μ' 83 33 = (if ν 83 33 < 6 then ν 83 33 + 1 else 6) → (∀ r : Nat, r < 4 → μ' 101 r = ν 89 r ∧ μ' 102 r = ν 90 r) → μ' 103 0 = ν 83 11 → (∀ b : Nat, 4 ≤ b → b < 24 → μ' 101 b = ν 101 (b - 4) ∧ μ' 102 b = ν 102 (b - 4)) → (∀ b : Nat, 1 ≤ b → b < 6 → μ' 103 b = ν 103 (b - 1)) → Q none μ') : am_Does l 179 [.inr (.inr 83)] ν Q := by
  refine am_Does_of (Nat.le_of_ble_eq_true rfl) (Nat.le_of_ble_eq_true rfl) (Nat.le_of_ble_eq_true rfl) ?_
  have c6 : am_c (ν 83 33) = ν 83 33 := am_cR (by omega) (by omega)
  have d6 : am_c 6 = 6 := rfl
  have lp95 : ∀ (m : Nat) (i : Int) (o2 : Option am_V) (μ : am_N) , (∀ a b, a ≠ 101 → a ≠ 102 → a ≠ 103 → μ a b = ν a b) → 0 ≤ i → i ≤ 4 → (∀ b : Nat, (b : Int) < i → μ 101 b = ν 89 b ∧ μ 102 b = ν 90 b) → (∀ b : Nat, 4 ≤ b → b < 24 → μ 101 b = ν 101 (b - 4) ∧ μ 102 b = ν 102 (b - 4)) → μ 103 0 = ν 83 11 → (∀ b : Nat, 1 ≤ b → b < 6 → μ 103 b = ν 103 (b - 1)) → 4 - i < (m : Int) → am_AW l 0 (fun _ => 0) 179 Q 95 [some (.inr (.inr 83)), some (.inl i), o2] [] μ := by
    intro m
    induction m with
    | zero =>
      intro i o2 μ hv0 hv1 hv2 hv3 hv4 hv5 hv6 hm
      exfalso
      omega
    | succ m ih =>
      intro i o2 μ hv0 hv1 hv2 hv3 hv4 hv5 hv6 hm
      have ci : am_c i = i := am_cR (by omega) (by omega)
      have d4 : am_c 4 = 4 := rfl
      have e33 : μ 83 33 = ν 83 33 := hv0 83 33 (by decide) (by decide) (by decide)
      have c33 : am_c (μ 83 33) = ν 83 33 := by rw [e33]; exact c6
      refine am_go (ct := fun pc => Nat.beq pc 95 || Nat.beq pc 22 || Nat.beq pc 2) am_oX7_keepsRun 200 ?_
      conv => whnf
      repeat' first
        | (refine (?_ : am_wp _ _ _ _ _ _ _ _ _ _ _ _); conv => whnf)
        | (refine (?_ : am_sw _ _ _ _); conv => whnf)
        | refine And.intro trivial ?_
        | exact trivial
        | refine k _ ?_ ?_ ?_ ?_ ?_ ?_
        | ((with_reducible refine (?_ : am_AW _ _ _ _ _ 95 _ _ _)); refine ih _ _ _ ?_ ?_ ?_ ?_ ?_ ?_ ?_ ?_)
        | refine And.intro (fun h => absurd h (by decide)) (fun _ => ?_)
        | refine And.intro (fun _ => ?_) (fun h => absurd (by decide) h)
        | refine And.intro (fun _ => ?_) (fun _ => ?_)
        | refine And.intro ?_ ?_
      all_goals (first | decide | omega | (simp only [ci, d4] at *; omega) | (intro a b q1 q2 q3; rw [am_upN q2, am_upN q1]; exact hv0 a b q1 q2 q3) | (intro a b q1 q2 q3 q4; rw [am_uE q4]; exact hv0 a b q1 q2 q3) | (intro b hb; by_cases d : (b : Int) = i; (rw [am_upN (by decide), am_upS, if_pos ⟨rfl, by rw [ci]; omega⟩, am_upS, if_pos ⟨rfl, by rw [ci]; omega⟩, am_upN (by decide), hv0 _ _ (by decide) (by decide) (by decide), hv0 _ _ (by decide) (by decide) (by decide), ci, show i.toNat = b by omega]; exact ⟨rfl, rfl⟩); (rw [am_upN (by decide), am_upM (by rw [ci]; omega), am_upM (by rw [ci]; omega)]; exact hv3 b (by omega))) | (intro b q1 q2; rw [am_upN (by decide), am_upM (by rw [ci]; omega), am_upM (by rw [ci]; omega)]; exact hv4 b q1 q2) | (rw [am_upN (by decide), am_upN (by decide)]; exact hv5) | (intro b q1 q2; rw [am_upN (by decide), am_upN (by decide)]; exact hv6 b q1 q2) | (rw [am_upS, if_pos ⟨rfl, rfl⟩]; first | (rw [if_pos (by omega), e33]) | (rw [if_neg (by omega)])) | (intro r hr; rw [am_upN (by decide), am_upN (by decide)]; exact hv3 r (by simp only [ci, d4] at *; omega)) | (rw [am_upN (by decide)]; exact hv5) | (intro b q1 q2; rw [am_upN (by decide)]; exact hv6 b q1 q2) | (intro b q1 q2; rw [am_upN (by decide), am_upN (by decide)]; exact hv4 b q1 q2) | (trace_state; fail))
  have lp95' : ∀ (i : Int) (o2 : Option am_V) (μ : am_N) , (∀ a b, a ≠ 101 → a ≠ 102 → a ≠ 103 → μ a b = ν a b) → 0 ≤ i → i ≤ 4 → (∀ b : Nat, (b : Int) < i → μ 101 b = ν 89 b ∧ μ 102 b = ν 90 b) → (∀ b : Nat, 4 ≤ b → b < 24 → μ 101 b = ν 101 (b - 4) ∧ μ 102 b = ν 102 (b - 4)) → μ 103 0 = ν 83 11 → (∀ b : Nat, 1 ≤ b → b < 6 → μ 103 b = ν 103 (b - 1)) → am_AW l 0 (fun _ => 0) 179 Q 95 [some (.inr (.inr 83)), some (.inl i), o2] [] μ := fun i o2 μ hv0 hv1 hv2 hv3 hv4 hv5 hv6 => lp95 ((4 - i) + 1).toNat i o2 μ hv0 hv1 hv2 hv3 hv4 hv5 hv6 (by omega)
  have lp22 : ∀ (m : Nat) (c i : Int) (μ : am_N) , (∀ a b, a ≠ 101 → a ≠ 102 → a ≠ 103 → μ a b = ν a b) → 1 ≤ c → c ≤ 5 → 0 ≤ i → i ≤ 4 → (∀ b : Nat, μ 101 b = if ((4 * c + 4 ≤ (b : Int) ∧ b < 24) ∨ (4 * c ≤ (b : Int) ∧ (b : Int) < 4 * c + i)) then ν 101 (b - 4) else ν 101 b) → (∀ b : Nat, μ 102 b = if ((4 * c + 4 ≤ (b : Int) ∧ b < 24) ∨ (4 * c ≤ (b : Int) ∧ (b : Int) < 4 * c + i)) then ν 102 (b - 4) else ν 102 b) → (∀ b : Nat, μ 103 b = if ((c - 1) < (b : Int) ∧ b < 6) then ν 103 (b - 1) else ν 103 b) → (∀ (o2 : Option am_V) (μ : am_N), (∀ a b, a ≠ 101 → a ≠ 102 → a ≠ 103 → μ a b = ν a b) → (∀ b : Nat, μ 101 b = if ((4 * (c + -1) + 4 ≤ (b : Int) ∧ b < 24) ∨ (4 * (c + -1) ≤ (b : Int) ∧ (b : Int) < 4 * (c + -1) + 0)) then ν 101 (b - 4) else ν 101 b) → (∀ b : Nat, μ 102 b = if ((4 * (c + -1) + 4 ≤ (b : Int) ∧ b < 24) ∨ (4 * (c + -1) ≤ (b : Int) ∧ (b : Int) < 4 * (c + -1) + 0)) then ν 102 (b - 4) else ν 102 b) → (∀ b : Nat, μ 103 b = if ((c + -1) < (b : Int) ∧ b < 6) then ν 103 (b - 1) else ν 103 b) → am_AW l 0 (fun _ => 0) 179 Q 2 [some (.inr (.inr 83)), some (.inl (c + -1)), o2] [] μ) → 4 - i < (m : Int) → am_AW l 0 (fun _ => 0) 179 Q 22 [some (.inr (.inr 83)), some (.inl c), some (.inl i)] [] μ := by
    intro m
    induction m with
    | zero =>
      intro c i μ hv0 hv1 hv2 hv3 hv4 hv5 hv6 hv7 hv8 hm
      exfalso
      omega
    | succ m ih =>
      intro c i μ hv0 hv1 hv2 hv3 hv4 hv5 hv6 hv7 hv8 hm
      have cc : am_c c = c := am_cR (by omega) (by omega)
      have c1 : am_c (c - 1) = c - 1 := am_cR (by omega) (by omega)
      have d4 : am_c 4 = 4 := rfl
      have d0 : am_c 0 = 0 := rfl
      have ci : am_c i = i := am_cR (by omega) (by omega)
      have x1 : am_c (4 * c + i) = 4 * c + i := am_cR (by omega) (by omega)
      have x2 : am_c (4 * c - 4 + i) = 4 * c - 4 + i := am_cR (by omega) (by omega)
      refine am_go (ct := fun pc => Nat.beq pc 95 || Nat.beq pc 22 || Nat.beq pc 2) am_oX7_keepsRun 200 ?_
      conv => whnf
      repeat' first
        | (refine (?_ : am_wp _ _ _ _ _ _ _ _ _ _ _ _); conv => whnf)
        | (refine (?_ : am_sw _ _ _ _); conv => whnf)
        | refine And.intro trivial ?_
        | exact trivial
        | refine hv8 _ _ ?_ ?_ ?_ ?_
        | ((with_reducible refine (?_ : am_AW _ _ _ _ _ 22 _ _ _)); refine ih _ _ _ ?_ ?_ ?_ ?_ ?_ ?_ ?_ ?_ ?_ ?_)
        | ((with_reducible refine (?_ : am_AW _ _ _ _ _ 95 _ _ _)); refine lp95' _ _ _ ?_ ?_ ?_ ?_ ?_ ?_ ?_)
        | refine And.intro (fun h => absurd h (by decide)) (fun _ => ?_)
        | refine And.intro (fun _ => ?_) (fun h => absurd (by decide) h)
        | refine And.intro (fun _ => ?_) (fun _ => ?_)
        | refine And.intro ?_ ?_
      all_goals (first | decide | omega | (simp only [cc, ci, d4, x1, x2] at *; omega) | (intro a b q1 q2 q3; rw [am_upN q2, am_upN q1]; exact hv0 a b q1 q2 q3) | exact hv0 | (intro b; rw [am_upN (by decide)]; revert b; (intro b; by_cases d : (b : Int) = 4 * c + i; (rw [am_upS, if_pos ⟨rfl, by rw [x1]; omega⟩, if_pos (by omega), x2, hv5, if_neg (by omega), show (4 * c - 4 + i).toNat = b - 4 by omega]); (rw [am_upM (by rw [x1]; omega), hv5 b]; by_cases e : ((4 * c + 4 ≤ (b : Int) ∧ b < 24) ∨ (4 * c ≤ (b : Int) ∧ (b : Int) < 4 * c + i)); (rw [if_pos e, if_pos (by omega)]); (rw [if_neg e, if_neg (by omega)])))) | (intro b; by_cases d : (b : Int) = 4 * c + i; (rw [am_upS, if_pos ⟨rfl, by rw [x1]; omega⟩, if_pos (by omega), x2, am_upN (by decide), hv6, if_neg (by omega), show (4 * c - 4 + i).toNat = b - 4 by omega]); (rw [am_upM (by rw [x1]; omega), am_upN (by decide), hv6 b]; by_cases e : ((4 * c + 4 ≤ (b : Int) ∧ b < 24) ∨ (4 * c ≤ (b : Int) ∧ (b : Int) < 4 * c + i)); (rw [if_pos e, if_pos (by omega)]); (rw [if_neg e, if_neg (by omega)]))) | (intro b; rw [am_upN (by decide), am_upN (by decide)]; exact hv7 b) | exact hv8 | (intro b; rw [hv5 b]; by_cases e : ((4 * c + 4 ≤ (b : Int) ∧ b < 24) ∨ (4 * c ≤ (b : Int) ∧ (b : Int) < 4 * c + i)); (rw [if_pos e, if_pos (by simp only [ci, d4] at *; omega)]); (rw [if_neg e, if_neg (by simp only [ci, d4] at *; omega)])) | (intro b; rw [hv6 b]; by_cases e : ((4 * c + 4 ≤ (b : Int) ∧ b < 24) ∨ (4 * c ≤ (b : Int) ∧ (b : Int) < 4 * c + i)); (rw [if_pos e, if_pos (by simp only [ci, d4] at *; omega)]); (rw [if_neg e, if_neg (by simp only [ci, d4] at *; omega)])) | (intro b; rw [hv7 b, show c + -1 = c - 1 by omega]) | (trace_state; fail))
  have lp22' : ∀ (c i : Int) (μ : am_N) , (∀ a b, a ≠ 101 → a ≠ 102 → a ≠ 103 → μ a b = ν a b) → 1 ≤ c → c ≤ 5 → 0 ≤ i → i ≤ 4 → (∀ b : Nat, μ 101 b = if ((4 * c + 4 ≤ (b : Int) ∧ b < 24) ∨ (4 * c ≤ (b : Int) ∧ (b : Int) < 4 * c + i)) then ν 101 (b - 4) else ν 101 b) → (∀ b : Nat, μ 102 b = if ((4 * c + 4 ≤ (b : Int) ∧ b < 24) ∨ (4 * c ≤ (b : Int) ∧ (b : Int) < 4 * c + i)) then ν 102 (b - 4) else ν 102 b) → (∀ b : Nat, μ 103 b = if ((c - 1) < (b : Int) ∧ b < 6) then ν 103 (b - 1) else ν 103 b) → (∀ (o2 : Option am_V) (μ : am_N), (∀ a b, a ≠ 101 → a ≠ 102 → a ≠ 103 → μ a b = ν a b) → (∀ b : Nat, μ 101 b = if ((4 * (c + -1) + 4 ≤ (b : Int) ∧ b < 24) ∨ (4 * (c + -1) ≤ (b : Int) ∧ (b : Int) < 4 * (c + -1) + 0)) then ν 101 (b - 4) else ν 101 b) → (∀ b : Nat, μ 102 b = if ((4 * (c + -1) + 4 ≤ (b : Int) ∧ b < 24) ∨ (4 * (c + -1) ≤ (b : Int) ∧ (b : Int) < 4 * (c + -1) + 0)) then ν 102 (b - 4) else ν 102 b) → (∀ b : Nat, μ 103 b = if ((c + -1) < (b : Int) ∧ b < 6) then ν 103 (b - 1) else ν 103 b) → am_AW l 0 (fun _ => 0) 179 Q 2 [some (.inr (.inr 83)), some (.inl (c + -1)), o2] [] μ) → am_AW l 0 (fun _ => 0) 179 Q 22 [some (.inr (.inr 83)), some (.inl c), some (.inl i)] [] μ := fun c i μ hv0 hv1 hv2 hv3 hv4 hv5 hv6 hv7 hv8 => lp22 ((4 - i) + 1).toNat c i μ hv0 hv1 hv2 hv3 hv4 hv5 hv6 hv7 hv8 (by omega)
  have lp2 : ∀ (m : Nat) (c : Int) (o2 : Option am_V) (μ : am_N) , (∀ a b, a ≠ 101 → a ≠ 102 → a ≠ 103 → μ a b = ν a b) → 0 ≤ c → c ≤ 5 → (∀ b : Nat, μ 101 b = if ((4 * c + 4 ≤ (b : Int) ∧ b < 24) ∨ (4 * c ≤ (b : Int) ∧ (b : Int) < 4 * c + 0)) then ν 101 (b - 4) else ν 101 b) → (∀ b : Nat, μ 102 b = if ((4 * c + 4 ≤ (b : Int) ∧ b < 24) ∨ (4 * c ≤ (b : Int) ∧ (b : Int) < 4 * c + 0)) then ν 102 (b - 4) else ν 102 b) → (∀ b : Nat, μ 103 b = if (c < (b : Int) ∧ b < 6) then ν 103 (b - 1) else ν 103 b) → c < (m : Int) → am_AW l 0 (fun _ => 0) 179 Q 2 [some (.inr (.inr 83)), some (.inl c), o2] [] μ := by
    intro m
    induction m with
    | zero =>
      intro c o2 μ hv0 hv1 hv2 hv3 hv4 hv5 hm
      exfalso
      omega
    | succ m ih =>
      intro c o2 μ hv0 hv1 hv2 hv3 hv4 hv5 hm
      have cc : am_c c = c := am_cR (by omega) (by omega)
      have c1 : am_c (c - 1) = c - 1 := am_cR (by omega) (by omega)
      have d4 : am_c 4 = 4 := rfl
      have d0 : am_c 0 = 0 := rfl
      refine am_go (ct := fun pc => Nat.beq pc 95 || Nat.beq pc 22 || Nat.beq pc 2) am_oX7_keepsRun 200 ?_
      conv => whnf
      repeat' first
        | (refine (?_ : am_wp _ _ _ _ _ _ _ _ _ _ _ _); conv => whnf)
        | (refine (?_ : am_sw _ _ _ _); conv => whnf)
        | refine And.intro trivial ?_
        | exact trivial
        | ((with_reducible refine (?_ : am_AW _ _ _ _ _ 2 _ _ _)); refine ih _ _ _ ?_ ?_ ?_ ?_ ?_ ?_ ?_)
        | ((with_reducible refine (?_ : am_AW _ _ _ _ _ 22 _ _ _)); refine lp22' _ _ _ ?_ ?_ ?_ ?_ ?_ ?_ ?_ ?_ ?_)
        | ((with_reducible refine (?_ : am_AW _ _ _ _ _ 95 _ _ _)); refine lp95' _ _ _ ?_ ?_ ?_ ?_ ?_ ?_ ?_)
        | refine And.intro (fun h => absurd h (by decide)) (fun _ => ?_)
        | refine And.intro (fun _ => ?_) (fun h => absurd (by decide) h)
        | refine And.intro (fun _ => ?_) (fun _ => ?_)
        | refine And.intro ?_ ?_
      all_goals (first | decide | omega | (simp only [cc, d0] at *; omega) | exact hv0 | (intro a b q1 q2 q3; rw [am_upN q3]; exact hv0 a b q1 q2 q3) | (intro b; rw [am_upN (by decide)]; exact hv3 b) | (intro b; rw [am_upN (by decide)]; exact hv4 b) | (intro b; by_cases d : (b : Int) = c; (rw [am_upS, if_pos ⟨rfl, by rw [cc]; omega⟩, if_pos (by omega), c1, hv5, if_neg (by omega), show (c - 1).toNat = b - 1 by omega]); (rw [am_upM (by rw [cc]; omega), hv5 b]; by_cases e : (c < (b : Int) ∧ b < 6); (rw [if_pos e, if_pos (by omega)]); (rw [if_neg e, if_neg (by omega)]))) | (intros; refine ih _ _ _ ?_ ?_ ?_ ?_ ?_ ?_ ?_ <;> first | assumption | omega) | (intro b hb; omega) | (intro b q1 q2; rw [am_upN (by decide), am_upN (by decide), hv3 b, hv4 b, if_pos (by simp only [cc, d0] at *; omega), if_pos (by simp only [cc, d0] at *; omega)]; exact ⟨rfl, rfl⟩) | (rw [am_upS, if_pos ⟨rfl, rfl⟩]; exact hv0 _ _ (by decide) (by decide) (by decide)) | (intro b q1 q2; rw [am_upM (by simp only [d0]; omega), hv5 b, if_pos (by simp only [cc, d0] at *; omega)]) | (trace_state; fail))
  have lp2' : ∀ (c : Int) (o2 : Option am_V) (μ : am_N) , (∀ a b, a ≠ 101 → a ≠ 102 → a ≠ 103 → μ a b = ν a b) → 0 ≤ c → c ≤ 5 → (∀ b : Nat, μ 101 b = if ((4 * c + 4 ≤ (b : Int) ∧ b < 24) ∨ (4 * c ≤ (b : Int) ∧ (b : Int) < 4 * c + 0)) then ν 101 (b - 4) else ν 101 b) → (∀ b : Nat, μ 102 b = if ((4 * c + 4 ≤ (b : Int) ∧ b < 24) ∨ (4 * c ≤ (b : Int) ∧ (b : Int) < 4 * c + 0)) then ν 102 (b - 4) else ν 102 b) → (∀ b : Nat, μ 103 b = if (c < (b : Int) ∧ b < 6) then ν 103 (b - 1) else ν 103 b) → am_AW l 0 (fun _ => 0) 179 Q 2 [some (.inr (.inr 83)), some (.inl c), o2] [] μ := fun c o2 μ hv0 hv1 hv2 hv3 hv4 hv5 => lp2 ((c) + 1).toNat c o2 μ hv0 hv1 hv2 hv3 hv4 hv5 (by omega)
  refine am_go (ct := fun pc => Nat.beq pc 95 || Nat.beq pc 22 || Nat.beq pc 2) am_oX7_keepsRun 200 ?_
  conv => whnf
  repeat' first
    | (refine (?_ : am_wp _ _ _ _ _ _ _ _ _ _ _ _); conv => whnf)
    | (refine (?_ : am_sw _ _ _ _); conv => whnf)
    | refine And.intro trivial ?_
    | exact trivial
    | ((with_reducible refine (?_ : am_AW _ _ _ _ _ 2 _ _ _)); refine lp2' _ _ _ ?_ ?_ ?_ ?_ ?_ ?_)
    | ((with_reducible refine (?_ : am_AW _ _ _ _ _ 22 _ _ _)); refine lp22' _ _ _ ?_ ?_ ?_ ?_ ?_ ?_ ?_ ?_ ?_)
    | ((with_reducible refine (?_ : am_AW _ _ _ _ _ 95 _ _ _)); refine lp95' _ _ _ ?_ ?_ ?_ ?_ ?_ ?_ ?_)
    | refine And.intro (fun h => absurd h (by decide)) (fun _ => ?_)
    | refine And.intro (fun _ => ?_) (fun h => absurd (by decide) h)
    | refine And.intro (fun _ => ?_) (fun _ => ?_)
    | refine And.intro ?_ ?_
  all_goals (first | decide | omega | exact fun _ _ _ _ _ => rfl | (intro b; rw [if_neg (by omega)]) | (intros; omega) | (trace_state; fail))
theorem x_mback {l : Launch} {ν : am_N} {Q : Option am_V → am_N → Prop} (h0 : 0 < ν 83 33) (h1 : ν 83 33 ≤ 6) (k : ∀ μ' : am_N, (∀ a b, a ≠ 101 → a ≠ 102 → a ≠ 103 → a ≠ 89 → a ≠ 90 → ¬(a = 83 ∧ b = 11) → ¬(a = 83 ∧ b = 33) → μ' a b = ν a b) → μ' 83 33 = ν 83 33 - 1 → μ' 83 11 = ν 103 0 → (∀ r : Nat, r < 4 → μ' 89 r = ν 101 r ∧ μ' 90 r = ν 102 r) → (∀ b : Nat, b < 20 → μ' 101 b = ν 101 (b + 4) ∧ μ' 102 b = ν 102 (b + 4)) → (∀ b : Nat, b < 5 → μ' 103 b = ν 103 (b + 1)) → Q (some (.inl (ν 83 33 - 1))) μ') : am_Does l 180 [.inr (.inr 83)] ν Q := by
  refine am_Does_of (Nat.le_of_ble_eq_true rfl) (Nat.le_of_ble_eq_true rfl) (Nat.le_of_ble_eq_true rfl) ?_
  have c0 : am_c (ν 83 33) ≠ 0 := by rw [am_cR (by omega) (by omega)]; omega
  have kk := fun (μ' : am_N) (x : Int) a1 a2 a3 a4 a5 a6 (e : x = ν 83 33 - 1) => am_qe (k μ' a1 a2 a3 a4 a5 a6) e
  have lp84 : ∀ (m : Nat) (c i : Int) (μ : am_N) , (∀ a b, a ≠ 101 → a ≠ 102 → a ≠ 103 → a ≠ 89 → a ≠ 90 → ¬(a = 83 ∧ b = 11) → μ a b = ν a b) → 0 ≤ c → c ≤ 4 → 0 ≤ i → i ≤ 4 → μ 83 11 = ν 103 0 → (∀ r : Nat, r < 4 → μ 89 r = ν 101 r ∧ μ 90 r = ν 102 r) → (∀ b : Nat, μ 101 b = if (((b : Int) < 4 * c) ∨ (4 * c ≤ (b : Int) ∧ (b : Int) < 4 * c + i)) then ν 101 (b + 4) else ν 101 b) → (∀ b : Nat, μ 102 b = if (((b : Int) < 4 * c) ∨ (4 * c ≤ (b : Int) ∧ (b : Int) < 4 * c + i)) then ν 102 (b + 4) else ν 102 b) → (∀ b : Nat, μ 103 b = if ((b : Int) < (c + 1)) then ν 103 (b + 1) else ν 103 b) → (∀ (o2 : Option am_V) (μ : am_N), (∀ a b, a ≠ 101 → a ≠ 102 → a ≠ 103 → a ≠ 89 → a ≠ 90 → ¬(a = 83 ∧ b = 11) → μ a b = ν a b) → μ 83 11 = ν 103 0 → (∀ r : Nat, r < 4 → μ 89 r = ν 101 r ∧ μ 90 r = ν 102 r) → (∀ b : Nat, μ 101 b = if (((b : Int) < 4 * (c + 1)) ∨ (4 * (c + 1) ≤ (b : Int) ∧ (b : Int) < 4 * (c + 1) + 0)) then ν 101 (b + 4) else ν 101 b) → (∀ b : Nat, μ 102 b = if (((b : Int) < 4 * (c + 1)) ∨ (4 * (c + 1) ≤ (b : Int) ∧ (b : Int) < 4 * (c + 1) + 0)) then ν 102 (b + 4) else ν 102 b) → (∀ b : Nat, μ 103 b = if ((b : Int) < (c + 1)) then ν 103 (b + 1) else ν 103 b) → am_AW l 0 (fun _ => 0) 180 Q 63 [some (.inr (.inr 83)), some (.inl (c + 1)), o2] [] μ) → 4 - i < (m : Int) → am_AW l 0 (fun _ => 0) 180 Q 84 [some (.inr (.inr 83)), some (.inl c), some (.inl i)] [] μ := by
    intro m
    induction m with
    | zero =>
      intro c i μ hv0 hv1 hv2 hv3 hv4 hv5 hv6 hv7 hv8 hv9 hv10 hm
      exfalso
      omega
    | succ m ih =>
      intro c i μ hv0 hv1 hv2 hv3 hv4 hv5 hv6 hv7 hv8 hv9 hv10 hm
      have cc : am_c c = c := am_cR (by omega) (by omega)
      have c1 : am_c (c + 1) = c + 1 := am_cR (by omega) (by omega)
      have d4 : am_c 4 = 4 := rfl
      have d5 : am_c 5 = 5 := rfl
      have d0 : am_c 0 = 0 := rfl
      have ci : am_c i = i := am_cR (by omega) (by omega)
      have x1 : am_c (4 * c + i) = 4 * c + i := am_cR (by omega) (by omega)
      have x2 : am_c (4 * c + 4 + i) = 4 * c + 4 + i := am_cR (by omega) (by omega)
      refine am_go (ct := fun pc => Nat.beq pc 84 || Nat.beq pc 63 || Nat.beq pc 26) am_oX7_back 200 ?_
      conv => whnf
      repeat' first
        | (refine (?_ : am_wp _ _ _ _ _ _ _ _ _ _ _ _); conv => whnf)
        | (refine (?_ : am_sw _ _ _ _); conv => whnf)
        | refine And.intro trivial ?_
        | exact trivial
        | refine hv10 _ _ ?_ ?_ ?_ ?_ ?_ ?_
        | refine And.intro (fun _ => ?_) (fun z => absurd z c0)
        | ((with_reducible refine (?_ : am_AW _ _ _ _ _ 84 _ _ _)); refine ih _ _ _ ?_ ?_ ?_ ?_ ?_ ?_ ?_ ?_ ?_ ?_ ?_ ?_)
        | refine And.intro (fun h => absurd h (by decide)) (fun _ => ?_)
        | refine And.intro (fun _ => ?_) (fun h => absurd (by decide) h)
        | refine And.intro (fun _ => ?_) (fun _ => ?_)
        | refine And.intro ?_ ?_
      all_goals (first | decide | omega | (simp only [cc, ci, d4, x1, x2] at *; omega) | (intro a b q1 q2 q3 q4 q5 q6; rw [am_upN q2, am_upN q1]; exact hv0 a b q1 q2 q3 q4 q5 q6) | exact hv0 | (rw [am_upN (by decide), am_upN (by decide)]; exact hv5) | exact hv5 | (intro r hr; rw [am_upN (by decide), am_upN (by decide), am_upN (by decide), am_upN (by decide)]; exact hv6 r hr) | exact hv6 | (intro b; rw [am_upN (by decide)]; revert b; (intro b; by_cases d : (b : Int) = 4 * c + i; (rw [am_upS, if_pos ⟨rfl, by rw [x1]; omega⟩, if_pos (by omega), x2, hv7, if_neg (by omega), show (4 * c + 4 + i).toNat = b + 4 by omega]); (rw [am_upM (by rw [x1]; omega), hv7 b]; by_cases e : (((b : Int) < 4 * c) ∨ (4 * c ≤ (b : Int) ∧ (b : Int) < 4 * c + i)); (rw [if_pos e, if_pos (by omega)]); (rw [if_neg e, if_neg (by omega)])))) | (intro b; by_cases d : (b : Int) = 4 * c + i; (rw [am_upS, if_pos ⟨rfl, by rw [x1]; omega⟩, if_pos (by omega), x2, am_upN (by decide), hv8, if_neg (by omega), show (4 * c + 4 + i).toNat = b + 4 by omega]); (rw [am_upM (by rw [x1]; omega), am_upN (by decide), hv8 b]; by_cases e : (((b : Int) < 4 * c) ∨ (4 * c ≤ (b : Int) ∧ (b : Int) < 4 * c + i)); (rw [if_pos e, if_pos (by omega)]); (rw [if_neg e, if_neg (by omega)]))) | (intro b; rw [am_upN (by decide), am_upN (by decide)]; exact hv9 b) | exact hv9 | exact hv10 | (intro b; rw [hv7 b]; by_cases e : (((b : Int) < 4 * c) ∨ (4 * c ≤ (b : Int) ∧ (b : Int) < 4 * c + i)); (rw [if_pos e, if_pos (by simp only [ci, d4] at *; omega)]); (rw [if_neg e, if_neg (by simp only [ci, d4] at *; omega)])) | (intro b; rw [hv8 b]; by_cases e : (((b : Int) < 4 * c) ∨ (4 * c ≤ (b : Int) ∧ (b : Int) < 4 * c + i)); (rw [if_pos e, if_pos (by simp only [ci, d4] at *; omega)]); (rw [if_neg e, if_neg (by simp only [ci, d4] at *; omega)])) | (trace_state; fail))
  have lp84' : ∀ (c i : Int) (μ : am_N) , (∀ a b, a ≠ 101 → a ≠ 102 → a ≠ 103 → a ≠ 89 → a ≠ 90 → ¬(a = 83 ∧ b = 11) → μ a b = ν a b) → 0 ≤ c → c ≤ 4 → 0 ≤ i → i ≤ 4 → μ 83 11 = ν 103 0 → (∀ r : Nat, r < 4 → μ 89 r = ν 101 r ∧ μ 90 r = ν 102 r) → (∀ b : Nat, μ 101 b = if (((b : Int) < 4 * c) ∨ (4 * c ≤ (b : Int) ∧ (b : Int) < 4 * c + i)) then ν 101 (b + 4) else ν 101 b) → (∀ b : Nat, μ 102 b = if (((b : Int) < 4 * c) ∨ (4 * c ≤ (b : Int) ∧ (b : Int) < 4 * c + i)) then ν 102 (b + 4) else ν 102 b) → (∀ b : Nat, μ 103 b = if ((b : Int) < (c + 1)) then ν 103 (b + 1) else ν 103 b) → (∀ (o2 : Option am_V) (μ : am_N), (∀ a b, a ≠ 101 → a ≠ 102 → a ≠ 103 → a ≠ 89 → a ≠ 90 → ¬(a = 83 ∧ b = 11) → μ a b = ν a b) → μ 83 11 = ν 103 0 → (∀ r : Nat, r < 4 → μ 89 r = ν 101 r ∧ μ 90 r = ν 102 r) → (∀ b : Nat, μ 101 b = if (((b : Int) < 4 * (c + 1)) ∨ (4 * (c + 1) ≤ (b : Int) ∧ (b : Int) < 4 * (c + 1) + 0)) then ν 101 (b + 4) else ν 101 b) → (∀ b : Nat, μ 102 b = if (((b : Int) < 4 * (c + 1)) ∨ (4 * (c + 1) ≤ (b : Int) ∧ (b : Int) < 4 * (c + 1) + 0)) then ν 102 (b + 4) else ν 102 b) → (∀ b : Nat, μ 103 b = if ((b : Int) < (c + 1)) then ν 103 (b + 1) else ν 103 b) → am_AW l 0 (fun _ => 0) 180 Q 63 [some (.inr (.inr 83)), some (.inl (c + 1)), o2] [] μ) → am_AW l 0 (fun _ => 0) 180 Q 84 [some (.inr (.inr 83)), some (.inl c), some (.inl i)] [] μ := fun c i μ hv0 hv1 hv2 hv3 hv4 hv5 hv6 hv7 hv8 hv9 hv10 => lp84 ((4 - i) + 1).toNat c i μ hv0 hv1 hv2 hv3 hv4 hv5 hv6 hv7 hv8 hv9 hv10 (by omega)
  have lp63 : ∀ (m : Nat) (c : Int) (o2 : Option am_V) (μ : am_N) , (∀ a b, a ≠ 101 → a ≠ 102 → a ≠ 103 → a ≠ 89 → a ≠ 90 → ¬(a = 83 ∧ b = 11) → μ a b = ν a b) → 0 ≤ c → c ≤ 5 → μ 83 11 = ν 103 0 → (∀ r : Nat, r < 4 → μ 89 r = ν 101 r ∧ μ 90 r = ν 102 r) → (∀ b : Nat, μ 101 b = if (((b : Int) < 4 * c) ∨ (4 * c ≤ (b : Int) ∧ (b : Int) < 4 * c + 0)) then ν 101 (b + 4) else ν 101 b) → (∀ b : Nat, μ 102 b = if (((b : Int) < 4 * c) ∨ (4 * c ≤ (b : Int) ∧ (b : Int) < 4 * c + 0)) then ν 102 (b + 4) else ν 102 b) → (∀ b : Nat, μ 103 b = if ((b : Int) < c) then ν 103 (b + 1) else ν 103 b) → 5 - c < (m : Int) → am_AW l 0 (fun _ => 0) 180 Q 63 [some (.inr (.inr 83)), some (.inl c), o2] [] μ := by
    intro m
    induction m with
    | zero =>
      intro c o2 μ hv0 hv1 hv2 hv3 hv4 hv5 hv6 hv7 hm
      exfalso
      omega
    | succ m ih =>
      intro c o2 μ hv0 hv1 hv2 hv3 hv4 hv5 hv6 hv7 hm
      have cc : am_c c = c := am_cR (by omega) (by omega)
      have c1 : am_c (c + 1) = c + 1 := am_cR (by omega) (by omega)
      have d4 : am_c 4 = 4 := rfl
      have d5 : am_c 5 = 5 := rfl
      have d0 : am_c 0 = 0 := rfl
      have e33 : μ 83 33 = ν 83 33 := hv0 83 33 (by decide) (by decide) (by decide) (by decide) (by decide) (by decide)
      refine am_go (ct := fun pc => Nat.beq pc 84 || Nat.beq pc 63 || Nat.beq pc 26) am_oX7_back 200 ?_
      conv => whnf
      repeat' first
        | (refine (?_ : am_wp _ _ _ _ _ _ _ _ _ _ _ _); conv => whnf)
        | (refine (?_ : am_sw _ _ _ _); conv => whnf)
        | refine And.intro trivial ?_
        | exact trivial
        | refine kk _ _ ?_ ?_ ?_ ?_ ?_ ?_ ?_
        | refine And.intro (fun _ => ?_) (fun z => absurd z c0)
        | ((with_reducible refine (?_ : am_AW _ _ _ _ _ 63 _ _ _)); refine ih _ _ _ ?_ ?_ ?_ ?_ ?_ ?_ ?_ ?_ ?_)
        | ((with_reducible refine (?_ : am_AW _ _ _ _ _ 84 _ _ _)); refine lp84' _ _ _ ?_ ?_ ?_ ?_ ?_ ?_ ?_ ?_ ?_ ?_ ?_)
        | refine And.intro (fun h => absurd h (by decide)) (fun _ => ?_)
        | refine And.intro (fun _ => ?_) (fun h => absurd (by decide) h)
        | refine And.intro (fun _ => ?_) (fun _ => ?_)
        | refine And.intro ?_ ?_
      all_goals (first | decide | omega | (simp only [cc, d0, d5] at *; omega) | exact hv0 | (intro a b q1 q2 q3 q4 q5 q6; rw [am_upN q3]; exact hv0 a b q1 q2 q3 q4 q5 q6) | (intro a b q1 q2 q3 q4 q5 q6 q7; rw [am_uE q7]; exact hv0 a b q1 q2 q3 q4 q5 q6) | (rw [am_upS, if_pos ⟨rfl, rfl⟩, e33]) | (rw [am_upN (by decide)]; exact hv3) | (rw [am_upM (by decide)]; exact hv3) | (intro r hr; rw [am_upN (by decide), am_upN (by decide)]; exact hv4 r hr) | (intro b; rw [am_upN (by decide)]; exact hv5 b) | (intro b; rw [am_upN (by decide)]; exact hv6 b) | (intro b; by_cases d : (b : Int) = c; (rw [am_upS, if_pos ⟨rfl, by rw [cc]; omega⟩, if_pos (by omega), c1, hv7, if_neg (by omega), show (c + 1).toNat = b + 1 by omega]); (rw [am_upM (by rw [cc]; omega), hv7 b]; by_cases e : ((b : Int) < c); (rw [if_pos e, if_pos (by omega)]); (rw [if_neg e, if_neg (by omega)]))) | (intros; refine ih _ _ _ ?_ ?_ ?_ ?_ ?_ ?_ ?_ ?_ ?_ <;> first | assumption | omega) | (intro b hb; rw [am_upN (by decide), am_upN (by decide), hv5 b, hv6 b, if_pos (by simp only [cc, d5] at *; omega), if_pos (by simp only [cc, d5] at *; omega)]; exact ⟨rfl, rfl⟩) | (intro b hb; rw [am_upN (by decide), hv7 b, if_pos (by simp only [cc, d5] at *; omega)]) | (trace_state; fail))
  have lp63' : ∀ (c : Int) (o2 : Option am_V) (μ : am_N) , (∀ a b, a ≠ 101 → a ≠ 102 → a ≠ 103 → a ≠ 89 → a ≠ 90 → ¬(a = 83 ∧ b = 11) → μ a b = ν a b) → 0 ≤ c → c ≤ 5 → μ 83 11 = ν 103 0 → (∀ r : Nat, r < 4 → μ 89 r = ν 101 r ∧ μ 90 r = ν 102 r) → (∀ b : Nat, μ 101 b = if (((b : Int) < 4 * c) ∨ (4 * c ≤ (b : Int) ∧ (b : Int) < 4 * c + 0)) then ν 101 (b + 4) else ν 101 b) → (∀ b : Nat, μ 102 b = if (((b : Int) < 4 * c) ∨ (4 * c ≤ (b : Int) ∧ (b : Int) < 4 * c + 0)) then ν 102 (b + 4) else ν 102 b) → (∀ b : Nat, μ 103 b = if ((b : Int) < c) then ν 103 (b + 1) else ν 103 b) → am_AW l 0 (fun _ => 0) 180 Q 63 [some (.inr (.inr 83)), some (.inl c), o2] [] μ := fun c o2 μ hv0 hv1 hv2 hv3 hv4 hv5 hv6 hv7 => lp63 ((5 - c) + 1).toNat c o2 μ hv0 hv1 hv2 hv3 hv4 hv5 hv6 hv7 (by omega)
  have lp26 : ∀ (m : Nat) (i : Int) (μ : am_N) , (∀ a b, a ≠ 89 → a ≠ 90 → ¬(a = 83 ∧ b = 11) → μ a b = ν a b) → 0 ≤ i → i ≤ 4 → μ 83 11 = ν 103 0 → (∀ b : Nat, (b : Int) < i → μ 89 b = ν 101 b ∧ μ 90 b = ν 102 b) → 4 - i < (m : Int) → am_AW l 0 (fun _ => 0) 180 Q 26 [some (.inr (.inr 83)), some (.inl i), none] [] μ := by
    intro m
    induction m with
    | zero =>
      intro i μ hv0 hv1 hv2 hv3 hv4 hm
      exfalso
      omega
    | succ m ih =>
      intro i μ hv0 hv1 hv2 hv3 hv4 hm
      have ci : am_c i = i := am_cR (by omega) (by omega)
      have d4 : am_c 4 = 4 := rfl
      refine am_go (ct := fun pc => Nat.beq pc 84 || Nat.beq pc 63 || Nat.beq pc 26) am_oX7_back 200 ?_
      conv => whnf
      repeat' first
        | (refine (?_ : am_wp _ _ _ _ _ _ _ _ _ _ _ _); conv => whnf)
        | (refine (?_ : am_sw _ _ _ _); conv => whnf)
        | refine And.intro trivial ?_
        | exact trivial
        | refine And.intro (fun _ => ?_) (fun z => absurd z c0)
        | ((with_reducible refine (?_ : am_AW _ _ _ _ _ 26 _ _ _)); refine ih _ _ ?_ ?_ ?_ ?_ ?_ ?_)
        | ((with_reducible refine (?_ : am_AW _ _ _ _ _ 63 _ _ _)); refine lp63' _ _ _ ?_ ?_ ?_ ?_ ?_ ?_ ?_ ?_)
        | ((with_reducible refine (?_ : am_AW _ _ _ _ _ 84 _ _ _)); refine lp84' _ _ _ ?_ ?_ ?_ ?_ ?_ ?_ ?_ ?_ ?_ ?_ ?_)
        | refine And.intro (fun h => absurd h (by decide)) (fun _ => ?_)
        | refine And.intro (fun _ => ?_) (fun h => absurd (by decide) h)
        | refine And.intro (fun _ => ?_) (fun _ => ?_)
        | refine And.intro ?_ ?_
      all_goals (first | decide | omega | (simp only [ci, d4] at *; omega) | (intro a b q1 q2 q3; rw [am_upN q2, am_upN q1]; exact hv0 a b q1 q2 q3) | (intro a b q1 q2 q3 q4 q5 q6; exact hv0 a b q4 q5 q6) | (rw [am_upN (by decide), am_upN (by decide)]; exact hv3) | exact hv3 | (intro b hb; by_cases d : (b : Int) = i; (rw [am_upN (by decide), am_upS, if_pos ⟨rfl, by rw [ci]; omega⟩, am_upS, if_pos ⟨rfl, by rw [ci]; omega⟩, am_upN (by decide), hv0 _ _ (by first | decide | omega | exact fun z => absurd z.1 (by decide)) (by first | decide | omega | exact fun z => absurd z.1 (by decide)) (by first | decide | omega | exact fun z => absurd z.1 (by decide)), hv0 _ _ (by first | decide | omega | exact fun z => absurd z.1 (by decide)) (by first | decide | omega | exact fun z => absurd z.1 (by decide)) (by first | decide | omega | exact fun z => absurd z.1 (by decide)), ci, show i.toNat = b by omega]; exact ⟨rfl, rfl⟩); (rw [am_upN (by decide), am_upM (by rw [ci]; omega), am_upM (by rw [ci]; omega)]; exact hv4 b (by omega))) | (intro r hr; exact hv4 r (by simp only [ci, d4] at *; omega)) | (intro b; rw [hv0 _ _ (by first | decide | omega | exact fun z => absurd z.1 (by decide)) (by first | decide | omega | exact fun z => absurd z.1 (by decide)) (by first | decide | omega | exact fun z => absurd z.1 (by decide)), if_neg (by omega)]) | (trace_state; fail))
  have lp26' : ∀ (i : Int) (μ : am_N) , (∀ a b, a ≠ 89 → a ≠ 90 → ¬(a = 83 ∧ b = 11) → μ a b = ν a b) → 0 ≤ i → i ≤ 4 → μ 83 11 = ν 103 0 → (∀ b : Nat, (b : Int) < i → μ 89 b = ν 101 b ∧ μ 90 b = ν 102 b) → am_AW l 0 (fun _ => 0) 180 Q 26 [some (.inr (.inr 83)), some (.inl i), none] [] μ := fun i μ hv0 hv1 hv2 hv3 hv4 => lp26 ((4 - i) + 1).toNat i μ hv0 hv1 hv2 hv3 hv4 (by omega)
  refine am_go (ct := fun pc => Nat.beq pc 84 || Nat.beq pc 63 || Nat.beq pc 26) am_oX7_back 200 ?_
  conv => whnf
  repeat' first
    | (refine (?_ : am_wp _ _ _ _ _ _ _ _ _ _ _ _); conv => whnf)
    | (refine (?_ : am_sw _ _ _ _); conv => whnf)
    | refine And.intro trivial ?_
    | exact trivial
    | refine And.intro (fun _ => ?_) (fun z => absurd z c0)
    | ((with_reducible refine (?_ : am_AW _ _ _ _ _ 26 _ _ _)); refine lp26' _ _ ?_ ?_ ?_ ?_ ?_)
    | ((with_reducible refine (?_ : am_AW _ _ _ _ _ 63 _ _ _)); refine lp63' _ _ _ ?_ ?_ ?_ ?_ ?_ ?_ ?_ ?_)
    | ((with_reducible refine (?_ : am_AW _ _ _ _ _ 84 _ _ _)); refine lp84' _ _ _ ?_ ?_ ?_ ?_ ?_ ?_ ?_ ?_ ?_ ?_ ?_)
    | refine And.intro (fun h => absurd h (by decide)) (fun _ => ?_)
    | refine And.intro (fun _ => ?_) (fun h => absurd (by decide) h)
    | refine And.intro (fun _ => ?_) (fun _ => ?_)
    | refine And.intro ?_ ?_
  all_goals (first | decide | omega | (intro a b q1 q2 q3; exact am_uE q3) | (rw [am_upS, if_pos ⟨rfl, rfl⟩]; rfl) | (intros; omega) | (trace_state; fail))
