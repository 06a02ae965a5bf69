/-! STARTS by a step -/
/-- a number's digits to the base m -/
def fp_dq (m c : Nat) : Nat → Nat
  | 0 => c
  | a + 1 => fp_dq m c a / m
def fp_sv (st : Int) (m c a : Nat) : Int := ((fp_dq m c a % m : Nat) : Int) * st
def fp_pw (m : Int) : Nat → Int
  | 0 => 1
  | n + 1 => fp_pw m n * m
theorem fp_pw_b {m : Int} (h0 : 1 ≤ m) (h1 : m ≤ 20) : ∀ n : Nat, n ≤ 3 → 1 ≤ fp_pw m n ∧ fp_pw m n ≤ 8000 := by
  have s : ∀ (x : Int) (B : Int), 1 ≤ x → x ≤ B → 1 ≤ x * m ∧ x * m ≤ B * 20 := fun x B a b => by
    have z := am_mulb (a := x) (A := B) (b := m) (B := 20) (by omega) b (by omega) h1
    have y : x * 1 ≤ x * m := Int.mul_le_mul_of_nonneg_left h0 (by omega)
    omega
  intro n hn
  have a1 := s 1 1 (by decide) (by decide)
  have a2 := s _ _ a1.1 a1.2
  have a3 := s _ _ a2.1 a2.2
  rcases (show n = 0 ∨ n = 1 ∨ n = 2 ∨ n = 3 by omega) with rfl | rfl | rfl | rfl
  · exact ⟨Int.le_refl 1, (show (1 : Int) ≤ 8000 by decide)⟩
  · exact ⟨a1.1, Int.le_trans a1.2 (by decide)⟩
  · exact ⟨a2.1, Int.le_trans a2.2 (by decide)⟩
  · exact ⟨a3.1, Int.le_trans a3.2 (by decide)⟩
theorem fp_dq_l (m c : Nat) : ∀ a : Nat, fp_dq m c a ≤ c := by
  intro a
  induction a with
  | zero => exact Nat.le_refl _
  | succ a ih => exact Nat.le_trans (Nat.div_le_self _ _) ih
theorem fp_sv_b {st : Int} {m c a : Nat} (hm : 0 < m) (h0 : 0 ≤ st) (h : ((m : Int) - 1) * st ≤ 99) : 0 ≤ fp_sv st m c a ∧ fp_sv st m c a ≤ 99 := by
  have d := Nat.mod_lt (fp_dq m c a) hm
  have z := am_mulb (a := ((fp_dq m c a % m : Nat) : Int)) (A := (m : Int) - 1) (b := st) (B := st) (by omega) (by omega) h0 (Int.le_refl _)
  unfold fp_sv
  omega
/-- one less: the same digits above the lowest that is not 0 -/
theorem fp_cA {m c : Nat} (hm : 0 < m) (h : c % m ≠ 0) : (c - 1) / m = c / m := by
  have e := Nat.div_add_mod c m
  have l := Nat.mod_lt c hm
  rw [Nat.mul_comm] at e
  refine Nat.div_eq_of_lt_le ?_ ?_
  · omega
  · rw [Nat.add_mul, Nat.one_mul]; omega
theorem fp_cB {m c : Nat} (hm : 0 < m) (h0 : c % m = 0) (h1 : c / m % m ≠ 0) : (c - 1) / m / m = c / m / m := by
  have e := Nat.div_add_mod c m
  rw [Nat.mul_comm, h0, Nat.add_zero] at e
  have p : 0 < c / m := by
    rcases Nat.eq_zero_or_pos (c / m) with z | z
    · rw [z, Nat.zero_mod] at h1; exact absurd rfl h1
    · exact z
  have q : (c - 1) / m = c / m - 1 := by
    refine Nat.div_eq_of_lt_le ?_ ?_
    · rw [Nat.sub_mul, Nat.one_mul, e]; omega
    · rw [show c / m - 1 + 1 = c / m by omega, e]
      have : 0 < c := by
        rw [← e]; exact Nat.mul_pos p hm
      omega
  rw [q]
  exact fp_cA hm h1
/-- TIME of one with a START -/
def fp_tt (F : am_N) (q : Nat) (s : Int) : Int := fp_to F q (F 0 0 - s) s
def fp_se (F : am_N) (st : Int) (m n c : Nat) : am_N := fp_ct (fun a b => if a = 5 ∧ b < n then fp_sv st m c (n - 1 - b) else F a b)
theorem fp_se_5 {F : am_N} {st : Int} {m n c q : Nat} (hn : n ≤ 4) (hq : q < n) : fp_se F st m n c 5 q = fp_sv st m c (n - 1 - q) := by
  unfold fp_se
  rw [fp_ct_i (fp_in_a (by decide) (by decide) (by omega))]
  exact if_pos ⟨rfl, hq⟩
theorem fp_se_0 {F : am_N} {st : Int} {m n c b : Nat} (hb : b < 5) : fp_se F st m n c 0 b = F 0 b := by
  unfold fp_se
  rw [fp_ct_i (fp_in_0 hb)]
  exact if_neg (fun z => absurd z.1 (by decide))
theorem fp_se_a {F : am_N} {st : Int} {m n c a b : Nat} (h0 : 0 < a) (h1 : a < 5) (hb : b < 4) : fp_se F st m n c a b = F a b := by
  unfold fp_se
  rw [fp_ct_i (fp_in_a h0 (by omega) hb)]
  exact if_neg (fun z => by omega)
theorem fp_se_t {F : am_N} {st : Int} {m n c q : Nat} (hn : n ≤ 4) (hq : q < n) : fp_tf (fp_se F st m n c) q = fp_tt F q (fp_sv st m c (n - 1 - q)) := by
  unfold fp_tf am_TC fp_tt fp_to
  rw [fp_se_a (a := 0 + 3) (by decide) (by decide) (by omega), fp_se_a (a := 0 + 2) (by decide) (by decide) (by omega), fp_se_a (a := 0 + 1) (by decide) (by decide) (by omega), fp_se_0 (by decide), fp_se_0 (by decide), show fp_se F st m n c (0 + 5) q = fp_sv st m c (n - 1 - q) from fp_se_5 hn hq]
theorem fw_se {F : am_N} {st : Int} {m n c : Nat} (h : fp_fw 999 F) (hv : ∀ a : Nat, 0 ≤ fp_sv st m c a ∧ fp_sv st m c a ≤ 99) : fp_fw 999 (fp_se F st m n c) := by
  obtain ⟨h0, h1, h2, h3, h4, h5, h6⟩ := h
  unfold fp_fw
  rw [fp_se_0 (by decide), fp_se_0 (by decide), fp_se_0 (by decide), fp_se_0 (by decide), fp_se_0 (by decide)]
  refine ⟨h0, h1, h2, h3, h4, fun i hi => ?_, fun i hi => ?_⟩
  · unfold fp_se
    rw [fp_ct_i (fp_in_a (by decide) (by decide) hi)]
    by_cases d : i < n
    · rw [if_pos ⟨rfl, d⟩]; exact hv _
    · rw [if_neg (fun z => d z.2)]; exact h5 i hi
  · rw [fp_se_a (by decide) (by decide) (by omega), fp_se_a (by decide) (by decide) (by omega), fp_se_a (by decide) (by decide) (by omega), fp_se_a (by decide) (by decide) (by omega)]
    exact h6 i hi
/-- what the class has at hand: TIMES in a table, rows of a race -/
def fp_TB (μ F : am_N) (st : Int) (m n : Nat) : Prop := (∀ r k : Nat, r < n → k < m → μ (80 + r) k = fp_tt F r ((k : Int) * st)) ∧ ∀ r : Nat, r < n → μ 5 r = F 4 r
theorem fp_TB_e {μ ν F : am_N} {st : Int} {m n : Nat} (h : fp_TB ν F st m n) (f : ∀ a b, ¬(30 ≤ a ∧ a ≤ 32) → μ a b = ν a b) (hn : n ≤ 3) : fp_TB μ F st m n := ⟨fun r k q1 q2 => (f (80 + r) k (by omega)).trans (h.1 r k q1 q2), fun r q => (f 5 r (by omega)).trans (h.2 r q)⟩
def fp_rw1 (μ F : am_N) (q : Nat) (s : Int) : Prop := μ 30 q = fp_pt (fp_tt F q s) (F 4 q) 0 ∧ μ 31 q = fp_tt F q s ∧ μ 32 q = fp_tt F q s + F 4 q
theorem fp_rw1_e {μ ν F : am_N} {q : Nat} {s : Int} (h : fp_rw1 ν F q s) (f : ∀ a, 30 ≤ a → a ≤ 32 → μ a q = ν a q) : fp_rw1 μ F q s := ⟨(f 30 (by decide) (by decide)).trans h.1, (f 31 (by decide) (by decide)).trans h.2.1, (f 32 (by decide) (by decide)).trans h.2.2⟩
def fp_RW (μ F : am_N) (st : Int) (m n c : Nat) : Prop := ∀ q : Nat, q < n → fp_rw1 μ F q (fp_sv st m c (n - 1 - q))
theorem fp_RW_l {μ F : am_N} {st : Int} {m n c r : Nat} (h : fp_RW μ F st m n c) (hn : n ≤ 4) (hr : r < n) (h4 : F 0 4 = (n : Int)) : fp_wy (μ 30) (μ 31) (μ 32) n r = fp_lw (fp_se F st m n c) r := by
  unfold fp_lw
  rw [fp_se_0 (by decide), h4, Int.toNat_natCast]
  refine fp_wy_e hr (fun j hj => ?_)
  rw [fp_se_a (a := 4) (by decide) (by decide) (by omega)]
  have t := fp_se_t (F := F) (st := st) (m := m) (c := c) hn hj
  have y := h j hj
  unfold fp_rw1 at y
  rw [← t] at y
  exact y
theorem fp_tt_b {F : am_N} {q : Nat} {s : Int} (h : fp_fw 999 F) (hq : (q : Int) < F 0 4) (s0 : 0 ≤ s) (s1 : s ≤ 99) : 1 ≤ fp_tt F q s ∧ fp_tt F q s ≤ 60000 := fp_to_b h (by decide) hq (by have := h.1; omega)
/-- the first of the least stays it where it is 0 -/
theorem fq_m_z {f : Nat → Int} {k : Nat} (h : ∀ i, 0 ≤ f i) (z : f (fq_m f k) = 0) : ∀ d : Nat, fq_m f (k + d) = fq_m f k := by
  intro d
  induction d with
  | zero => rfl
  | succ d ih =>
    show (if f (k + d + 1) < f (fq_m f (k + d)) then k + d + 1 else fq_m f (k + d)) = _
    rw [ih, z, if_neg (by have := h (k + d + 1); omega)]
theorem fq_m_u {f : Nat → Int} {c t y : Int} (hc : 0 ≤ c) (hy : (c = 0 ∧ t = 0 ∧ y = 999) ∨ (1 ≤ c ∧ t = ((fq_m f (c.toNat - 1) : Nat) : Int) ∧ y = f (fq_m f (c.toNat - 1)))) (h : f c.toNat < y) : c = ((fq_m f c.toNat : Nat) : Int) ∧ f c.toNat = f (fq_m f c.toNat) := by
  rcases hy with ⟨z1, z2, z3⟩ | ⟨z1, z2, z3⟩
  · subst z1
    exact ⟨rfl, rfl⟩
  · have e : fq_m f c.toNat = c.toNat := by
      have s := fq_m_s (f := f) (s := c) z1
      rw [show (c + 1).toNat - 1 = c.toNat by omega] at s
      rw [s, if_pos (by rw [← z3]; exact h)]
    rw [e]
    exact ⟨(Int.toNat_of_nonneg hc).symm, rfl⟩
theorem fq_m_k {f : Nat → Int} {c t y : Int} (hc : 0 ≤ c) (hy : (c = 0 ∧ t = 0 ∧ y = 999) ∨ (1 ≤ c ∧ t = ((fq_m f (c.toNat - 1) : Nat) : Int) ∧ y = f (fq_m f (c.toNat - 1)))) (hb : f 0 ≤ 256) (h : ¬ f c.toNat < y) : t = ((fq_m f c.toNat : Nat) : Int) ∧ y = f (fq_m f c.toNat) := by
  rcases hy with ⟨z1, z2, z3⟩ | ⟨z1, z2, z3⟩
  · subst z1
    have h : ¬ f 0 < y := h
    exact absurd hb (by omega)
  · have s := fq_m_s (f := f) (s := c) z1
    rw [show (c + 1).toNat - 1 = c.toNat by omega] at s
    rw [s, if_neg (by rw [← z3]; exact h)]
    exact ⟨z2, z3⟩
def fp_um (F : am_N) (st : Int) (m n : Nat) : Nat → Int := fun c => fp_un (fp_se F st m n c)
def fp_sb3 (F : am_N) (st : Int) (m n : Nat) : Nat := fq_m (fp_um F st m n) ((fp_pw (m : Int) n).toNat - 1)
def fp_str (F : am_N) (st i : Int) : Int := if st < 5 ∨ i < 0 then -4 else if 50 < st then -6 else if F 0 4 = 0 ∨ 3 < F 0 4 then -3 else if F 0 4 ≤ i then -9 else fp_sv st (99 / st + 1).toNat (fp_sb3 F st (99 / st + 1).toNat (F 0 4).toNat) ((F 0 4).toNat - 1 - i.toNat)
theorem fp_um_b {F : am_N} {st : Int} {m n c : Nat} (h1 : 1 ≤ F 0 4) (h4 : F 0 4 ≤ 4) : 0 ≤ fp_um F st m n c ∧ fp_um F st m n c ≤ 256 := by
  have a := fp_un_0 (F := fp_se F st m n c) (by rw [fp_se_0 (by decide)]; exact h1)
  have b := fp_un_b (F := fp_se F st m n c) (by rw [fp_se_0 (by decide)]; omega) (by rw [fp_se_0 (by decide)]; exact h4)
  exact ⟨a, b.2⟩
/-- the step's numbers -/
theorem fp_stm {st : Int} (h0 : 5 ≤ st) (h1 : st ≤ 50) : 2 ≤ 99 / st + 1 ∧ 99 / st + 1 ≤ 20 ∧ (99 / st + 1 - 1) * st ≤ 99 := by
  have a := Int.ediv_mul_le 99 (show st ≠ 0 by omega)
  have b : 1 ≤ 99 / st := (Int.le_ediv_iff_mul_le (by omega)).2 (by omega)
  have c : 99 / st ≤ 19 := by
    have z : 99 / st < 20 := (Int.ediv_lt_iff_lt_mul (by omega)).2 (by omega)
    omega
  rw [show 99 / st + 1 - 1 = 99 / st by omega]
  omega
theorem fp_rmN (x m : Nat) : ((x : Nat) : Int).tmod (m : Int) = ((x % m : Nat) : Int) := rfl
theorem fp_qmN (x m : Nat) : ((x : Nat) : Int).tdiv (m : Int) = ((x / m : Nat) : Int) := rfl
theorem sx_ev {ν μ : am_N} (hS : sx ν ν) (f : ∀ a b, ¬(30 ≤ a ∧ a ≤ 32) → ¬(a = 29 ∧ b = 0) → ¬(80 ≤ a ∧ a ≤ 82) → μ a b = ν a b) (h29 : 0 ≤ μ 29 0 ∧ μ 29 0 ≤ 4) : sx ν μ := by
  have p8 : ∀ a, sx_p a = true → ¬(80 ≤ a ∧ a ≤ 82) := fun a ha y => by
    rcases (show a = 80 ∨ a = 81 ∨ a = 82 by omega) with rfl | rfl | rfl <;> cases ha
  refine ⟨fun a b ha => f a b (fun z => sx_p30 ha (by omega)) (fun z => sx_p30 ha (by omega)) (p8 a ha), fun q hq => ?_, fun q hq => ?_, ⟨?_, ?_, h29, ?_⟩, hS.2.2.2.2⟩
  · rw [f 34 q (by omega) (by omega) (by omega)]; exact hS.2.1 q hq
  · rw [f 43 q (by omega) (by omega) (by omega)]; exact hS.2.2.1 q hq
  · rw [f 8 4 (by omega) (by omega) (by omega)]; exact hS.2.2.2.1.1
  · rw [f 15 4 (by omega) (by omega) (by omega)]; exact hS.2.2.2.1.2.1
  · rw [f 38 0 (by omega) (by omega) (by omega)]; exact hS.2.2.2.1.2.2.2
