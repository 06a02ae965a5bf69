/-! STARTS by a step -/
/-- a number's digits to the base m -/
def fp_dq (m c : Nat) : Nat → Nat
  | 0 => c
  | a + 1 => fp_dq m c a / m
def fp_sv (st : Int) (m c a : Nat) : Int := ((fp_dq m c a % m : Nat) : Int) * st
def fp_pw (m : Int) : Nat → Int
  | 0 => 1
  | n + 1 => fp_pw m n * m
theorem fp_pw_b {m : Int} (h0 : 1 ≤ m) (h1 : m ≤ 20) : ∀ n : Nat, n ≤ 3 → 1 ≤ fp_pw m n ∧ fp_pw m n ≤ 8000 := by
  have s : ∀ (x : Int) (B : Int), 1 ≤ x → x ≤ B → 1 ≤ x * m ∧ x * m ≤ B * 20 := fun x B a b => by
    have z := am_mulb (a := x) (A := B) (b := m) (B := 20) (by omega) b (by omega) h1
    have y : x * 1 ≤ x * m := Int.mul_le_mul_of_nonneg_left h0 (by omega)
    omega
  intro n hn
  have a1 := s 1 1 (by decide) (by decide)
  have a2 := s _ _ a1.1 a1.2
  have a3 := s _ _ a2.1 a2.2
  rcases (show n = 0 ∨ n = 1 ∨ n = 2 ∨ n = 3 by omega) with rfl | rfl | rfl | rfl
  · exact ⟨by decide, by decide⟩
  · exact ⟨a1.1, Int.le_trans a1.2 (by decide)⟩
  · exact ⟨a2.1, Int.le_trans a2.2 (by decide)⟩
  · exact ⟨a3.1, Int.le_trans a3.2 (by decide)⟩
theorem fp_dq_l (m c : Nat) : ∀ a : Nat, fp_dq m c a ≤ c := by
  intro a
  induction a with
  | zero => exact Nat.le_refl _
  | succ a ih => exact Nat.le_trans (Nat.div_le_self _ _) ih
theorem fp_sv_b {st : Int} {m c a : Nat} (hm : 0 < m) (h0 : 0 ≤ st) (h : ((m : Int) - 1) * st ≤ 99) : 0 ≤ fp_sv st m c a ∧ fp_sv st m c a ≤ 99 := by
  have d := Nat.mod_lt (fp_dq m c a) hm
  have z := am_mulb (a := ((fp_dq m c a % m : Nat) : Int)) (A := (m : Int) - 1) (b := st) (B := st) (by omega) (by omega) h0 (Int.le_refl _)
  unfold fp_sv
  omega
/-- one less: the same digits above the lowest that is not 0 -/
theorem fp_cA {m c : Nat} (hm : 0 < m) (h : c % m ≠ 0) : (c - 1) / m = c / m := by
  have e := Nat.div_add_mod c m
  have l := Nat.mod_lt c hm
  rw [Nat.mul_comm] at e
  refine Nat.div_eq_of_lt_le ?_ ?_
  · omega
  · rw [Nat.add_mul, Nat.one_mul]; omega
theorem fp_cB {m c : Nat} (hm : 0 < m) (h0 : c % m = 0) (h1 : c / m % m ≠ 0) : (c - 1) / m / m = c / m / m := by
  have e := Nat.div_add_mod c m
  rw [Nat.mul_comm, h0, Nat.add_zero] at e
  have p : 0 < c / m := by
    rcases Nat.eq_zero_or_pos (c / m) with z | z
    · rw [z, Nat.zero_mod] at h1; exact absurd rfl h1
    · exact z
  have q : (c - 1) / m = c / m - 1 := by
    refine Nat.div_eq_of_lt_le ?_ ?_
    · rw [Nat.sub_mul, Nat.one_mul, e]; omega
    · rw [show c / m - 1 + 1 = c / m by omega, e]
      have : 0 < c := by
        rw [← e]; exact Nat.mul_pos p hm
      omega
  rw [q]
  exact fp_cA hm h1
/-- TIME of one with a START -/
def fp_tt (F : am_N) (q : Nat) (s : Int) : Int := fp_to F q (F 0 0 - s) s
def fp_se (F : am_N) (st : Int) (m n c : Nat) : am_N := fp_ct (fun a b => if a = 5 ∧ b < n then fp_sv st m c (n - 1 - b) else F a b)
theorem fp_se_5 {F : am_N} {st : Int} {m n c q : Nat} (hn : n ≤ 4) (hq : q < n) : fp_se F st m n c 5 q = fp_sv st m c (n - 1 - q) := by
  unfold fp_se
  rw [fp_ct_i (fp_in_a (by decide) (by decide) (by omega))]
  exact if_pos ⟨rfl, hq⟩
theorem fp_se_0 {F : am_N} {st : Int} {m n c b : Nat} (hb : b < 5) : fp_se F st m n c 0 b = F 0 b := by
  unfold fp_se
  rw [fp_ct_i (fp_in_0 hb)]
  exact if_neg (fun z => absurd z.1 (by decide))
theorem fp_se_a {F : am_N} {st : Int} {m n c a b : Nat} (h0 : 0 < a) (h1 : a < 5) (hb : b < 4) : fp_se F st m n c a b = F a b := by
  unfold fp_se
  rw [fp_ct_i (fp_in_a h0 (by omega) hb)]
  exact if_neg (fun z => by omega)
theorem fp_se_t {F : am_N} {st : Int} {m n c q : Nat} (hn : n ≤ 4) (hq : q < n) : fp_tf (fp_se F st m n c) q = fp_tt F q (fp_sv st m c (n - 1 - q)) := by
  unfold fp_tf am_TC fp_tt fp_to
  rw [fp_se_a (a := 0 + 3) (by decide) (by decide) (by omega), fp_se_a (a := 0 + 2) (by decide) (by decide) (by omega), fp_se_a (a := 0 + 1) (by decide) (by decide) (by omega), fp_se_0 (by decide), fp_se_0 (by decide), show fp_se F st m n c (0 + 5) q = fp_sv st m c (n - 1 - q) from fp_se_5 hn hq]
theorem fw_se {F : am_N} {st : Int} {m n c : Nat} (h : fp_fw 999 F) (hv : ∀ a : Nat, 0 ≤ fp_sv st m c a ∧ fp_sv st m c a ≤ 99) : fp_fw 999 (fp_se F st m n c) := by
  obtain ⟨h0, h1, h2, h3, h4, h5, h6⟩ := h
  unfold fp_fw
  rw [fp_se_0 (by decide), fp_se_0 (by decide), fp_se_0 (by decide), fp_se_0 (by decide), fp_se_0 (by decide)]
  refine ⟨h0, h1, h2, h3, h4, fun i hi => ?_, fun i hi => ?_⟩
  · unfold fp_se
    rw [fp_ct_i (fp_in_a (by decide) (by decide) hi)]
    by_cases d : i < n
    · rw [if_pos ⟨rfl, d⟩]; exact hv _
    · rw [if_neg (fun z => d z.2)]; exact h5 i hi
  · rw [fp_se_a (by decide) (by decide) (by omega), fp_se_a (by decide) (by decide) (by omega), fp_se_a (by decide) (by decide) (by omega), fp_se_a (by decide) (by decide) (by omega)]
    exact h6 i hi
/-- what the class has at hand: TIMES in a table, rows of a race -/
def fp_TB (μ F : am_N) (st : Int) (m n : Nat) : Prop := (∀ r k : Nat, r < n → k < m → μ (80 + r) k = fp_tt F r ((k : Int) * st)) ∧ ∀ r : Nat, r < n → μ 5 r = F 4 r
theorem fp_TB_e {μ ν F : am_N} {st : Int} {m n : Nat} (h : fp_TB ν F st m n) (f : ∀ a b, ¬(30 ≤ a ∧ a ≤ 32) → μ a b = ν a b) (hn : n ≤ 3) : fp_TB μ F st m n := ⟨fun r k q1 q2 => (f (80 + r) k (by omega)).trans (h.1 r k q1 q2), fun r q => (f 5 r (by omega)).trans (h.2 r q)⟩
def fp_rw1 (μ F : am_N) (q : Nat) (s : Int) : Prop := μ 30 q = fp_pt (fp_tt F q s) (F 4 q) 0 ∧ μ 31 q = fp_tt F q s ∧ μ 32 q = fp_tt F q s + F 4 q
theorem fp_rw1_e {μ ν F : am_N} {q : Nat} {s : Int} (h : fp_rw1 ν F q s) (f : ∀ a, 30 ≤ a → a ≤ 32 → μ a q = ν a q) : fp_rw1 μ F q s := ⟨(f 30 (by decide) (by decide)).trans h.1, (f 31 (by decide) (by decide)).trans h.2.1, (f 32 (by decide) (by decide)).trans h.2.2⟩
def fp_RW (μ F : am_N) (st : Int) (m n c : Nat) : Prop := ∀ q : Nat, q < n → fp_rw1 μ F q (fp_sv st m c (n - 1 - q))
theorem fp_RW_l {μ F : am_N} {st : Int} {m n c r : Nat} (h : fp_RW μ F st m n c) (hn : n ≤ 4) (hr : r < n) (h4 : F 0 4 = (n : Int)) : fp_wy (μ 30) (μ 31) (μ 32) n r = fp_lw (fp_se F st m n c) r := by
  unfold fp_lw
  rw [fp_se_0 (by decide), h4, Int.toNat_natCast]
  refine fp_wy_e hr (fun j hj => ?_)
  have z := h j hj
  rw [← fp_se_t hn hj] at z
  unfold fp_rw1 fp_tt at z
  rw [fp_se_a (a := 4) (by decide) (by decide) (by omega)]
  have t := fp_se_t (F := F) (st := st) (m := m) (c := c) hn hj
  have y := h j hj
  unfold fp_rw1 at y
  rw [← t] at y
  exact y
theorem fp_tt_b {F : am_N} {q : Nat} {s : Int} (h : fp_fw 999 F) (hq : (q : Int) < F 0 4) (s0 : 0 ≤ s) (s1 : s ≤ 99) : 1 ≤ fp_tt F q s ∧ fp_tt F q s ≤ 60000 := fp_to_b h (by decide) hq (by have := h.1; omega)
/-- the first of the least stays it where it is 0 -/
theorem fq_m_z {f : Nat → Int} {k : Nat} (h : ∀ i, 0 ≤ f i) (z : f (fq_m f k) = 0) : ∀ d : Nat, fq_m f (k + d) = fq_m f k := by
  intro d
  induction d with
  | zero => rfl
  | succ d ih =>
    show (if f (k + d + 1) < f (fq_m f (k + d)) then k + d + 1 else fq_m f (k + d)) = _
    rw [ih, z, if_neg (by have := h (k + d + 1); omega)]
theorem fq_m_u {f : Nat → Int} {c t y : Int} (hc : 0 ≤ c) (hy : (c = 0 ∧ t = 0 ∧ y = 999) ∨ (1 ≤ c ∧ t = ((fq_m f (c.toNat - 1) : Nat) : Int) ∧ y = f (fq_m f (c.toNat - 1)))) (h : f c.toNat < y) : c = ((fq_m f c.toNat : Nat) : Int) ∧ f c.toNat = f (fq_m f c.toNat) := by
  rcases hy with ⟨z1, z2, z3⟩ | ⟨z1, z2, z3⟩
  · subst z1
    exact ⟨rfl, rfl⟩
  · have e : fq_m f c.toNat = c.toNat := by
      have s := fq_m_s (f := f) (s := c) z1
      rw [show (c + 1).toNat - 1 = c.toNat by omega] at s
      rw [s, if_pos (by rw [← z3]; exact h)]
    rw [e]
    exact ⟨(Int.toNat_of_nonneg hc).symm, rfl⟩
theorem fq_m_k {f : Nat → Int} {c t y : Int} (hc : 0 ≤ c) (hy : (c = 0 ∧ t = 0 ∧ y = 999) ∨ (1 ≤ c ∧ t = ((fq_m f (c.toNat - 1) : Nat) : Int) ∧ y = f (fq_m f (c.toNat - 1)))) (hb : f 0 ≤ 256) (h : ¬ f c.toNat < y) : t = ((fq_m f c.toNat : Nat) : Int) ∧ y = f (fq_m f c.toNat) := by
  rcases hy with ⟨z1, z2, z3⟩ | ⟨z1, z2, z3⟩
  · subst z1
    have h : ¬ f 0 < y := h
    exact absurd hb (by omega)
  · have s := fq_m_s (f := f) (s := c) z1
    rw [show (c + 1).toNat - 1 = c.toNat by omega] at s
    rw [s, if_neg (by rw [← z3]; exact h)]
    exact ⟨z2, z3⟩
def fp_um (F : am_N) (st : Int) (m n : Nat) : Nat → Int := fun c => fp_un (fp_se F st m n c)
def fp_sb3 (F : am_N) (st : Int) (m n : Nat) : Nat := fq_m (fp_um F st m n) ((fp_pw (m : Int) n).toNat - 1)
def fp_str (F : am_N) (st i : Int) : Int := if st < 5 ∨ i < 0 then -4 else if 50 < st then -6 else if F 0 4 = 0 ∨ 3 < F 0 4 then -3 else if F 0 4 ≤ i then -9 else fp_sv st (99 / st + 1).toNat (fp_sb3 F st (99 / st + 1).toNat (F 0 4).toNat) ((F 0 4).toNat - 1 - i.toNat)
theorem fp_um_b {F : am_N} {st : Int} {m n c : Nat} (h1 : 1 ≤ F 0 4) (h4 : F 0 4 ≤ 4) : 0 ≤ fp_um F st m n c ∧ fp_um F st m n c ≤ 256 := by
  have a := fp_un_0 (F := fp_se F st m n c) (by rw [fp_se_0 (by decide)]; exact h1)
  have b := fp_un_b (F := fp_se F st m n c) (by rw [fp_se_0 (by decide)]; omega) (by rw [fp_se_0 (by decide)]; exact h4)
  exact ⟨a, b.2⟩
/-- the step's numbers -/
theorem fp_stm {st : Int} (h0 : 5 ≤ st) (h1 : st ≤ 50) : 2 ≤ 99 / st + 1 ∧ 99 / st + 1 ≤ 20 ∧ (99 / st + 1 - 1) * st ≤ 99 := by
  have a := Int.ediv_mul_le 99 (show st ≠ 0 by omega)
  have b : 1 ≤ 99 / st := (Int.le_ediv_iff_mul_le (by omega)).2 (by omega)
  have c : 99 / st ≤ 19 := by
    have z : 99 / st < 20 := (Int.ediv_lt_iff_lt_mul (by omega)).2 (by omega)
    omega
  rw [show 99 / st + 1 - 1 = 99 / st by omega]
  omega
theorem fp_rmN (x m : Nat) : ((x : Nat) : Int).tmod (m : Int) = ((x % m : Nat) : Int) := rfl
theorem fp_qmN (x m : Nat) : ((x : Nat) : Int).tdiv (m : Int) = ((x / m : Nat) : Int) := rfl
theorem sx_ev {ν μ : am_N} (hS : sx ν ν) (f : ∀ a b, ¬(30 ≤ a ∧ a ≤ 32) → ¬(a = 29 ∧ b = 0) → ¬(80 ≤ a ∧ a ≤ 82) → μ a b = ν a b) (h29 : 0 ≤ μ 29 0 ∧ μ 29 0 ≤ 4) : sx ν μ := by
  have p8 : ∀ a, sx_p a = true → ¬(80 ≤ a ∧ a ≤ 82) := fun a ha y => by
    rcases (show a = 80 ∨ a = 81 ∨ a = 82 by omega) with rfl | rfl | rfl <;> cases ha
  refine ⟨fun a b ha => f a b (fun z => sx_p30 ha (by omega)) (fun z => sx_p30 ha (by omega)) (p8 a ha), fun q hq => ?_, fun q hq => ?_, ⟨?_, ?_, h29, ?_⟩, hS.2.2.2.2⟩
  · rw [f 34 q (by omega) (by omega) (by omega)]; exact hS.2.1 q hq
  · rw [f 43 q (by omega) (by omega) (by omega)]; exact hS.2.2.1 q hq
  · rw [f 8 4 (by omega) (by omega) (by omega)]; exact hS.2.2.2.1.1
  · rw [f 15 4 (by omega) (by omega) (by omega)]; exact hS.2.2.2.1.2.1
  · rw [f 38 0 (by omega) (by omega) (by omega)]; exact hS.2.2.2.1.2.2.2
theorem s_ps0 {l : Launch} {ν : am_N} {Q : Option am_V → am_N → Prop} (F : am_N) (st : Int) (m c a n : Nat) (o5 : Option am_V) (hw : fp_fw 999 F) (m2 : 2 ≤ m) (m20 : m ≤ 20) (hc : c ≤ 100000) (s0 : 0 ≤ st) (s1 : ((m : Int) - 1) * st ≤ 99) (hB : 0 < n) (hn : (n : Int) ≤ F 0 4) (hn3 : n ≤ 3) (hT : fp_TB ν F st m n) (kr : fp_dq m c a % m ≠ 0 → ∀ μ' : am_N, (∀ a b, ¬(30 ≤ a ∧ a ≤ 32 ∧ b = 0) → μ' a b = ν a b) → fp_rw1 μ' F 0 (fp_sv st m c a) → Q none μ') (kc : fp_dq m c a % m = 0 → ∀ (o5 : Option am_V) (μ' : am_N), (∀ a b, ¬(30 ≤ a ∧ a ≤ 32 ∧ b = 0) → μ' a b = ν a b) → fp_rw1 μ' F 0 (fp_sv st m c a) → am_AW l 0 (fun _ => 0) 124 Q 13 [some (.inr (.inr 0)), some (.inl ((c : Int))), some (.inl ((m : Int))), some (.inl ((fp_dq m c (a + 1) : Nat) : Int)), some (.inl (-1)), o5] [] μ') : am_AW l 0 (fun _ => 0) 124 Q 13 [some (.inr (.inr 0)), some (.inl (c : Int)), some (.inl (m : Int)), some (.inl ((fp_dq m c a : Nat) : Int)), some (.inl 0), o5] [] ν := by
  have l0 : am_c 0 = 0 := rfl
  have l1 : am_c 1 = 1 := rfl
  have l2 : am_c 2 = 2 := rfl
  have l3 : am_c 3 = 3 := rfl
  have l5 : am_c 5 = 5 := rfl
  have l20 : am_c 20 = 20 := rfl
  have l50 : am_c 50 = 50 := rfl
  have l99 : am_c 99 = 99 := rfl
  have hl := fp_dq_l m c a
  have dm := Nat.mod_lt (fp_dq m c a) (show 0 < m by omega)
  have cm : am_c (m : Int) = (m : Int) := am_cR (by omega) (by omega)
  have cy : am_c ((fp_dq m c a : Nat) : Int) = ((fp_dq m c a : Nat) : Int) := am_cR (by omega) (by omega)
  have rem : (am_c ((fp_dq m c a : Nat) : Int)).tmod (am_c (m : Int)) = ((fp_dq m c a % m : Nat) : Int) := by rw [cy, cm]; exact fp_rmN _ _
  have quo : (am_c ((fp_dq m c a : Nat) : Int)).tdiv (am_c (m : Int)) = ((fp_dq m c (a + 1) : Nat) : Int) := by rw [cy, cm]; exact fp_qmN _ _
  have cd : am_c ((fp_dq m c a % m : Nat) : Int) = ((fp_dq m c a % m : Nat) : Int) := am_cR (by omega) (by omega)
  have ed : (am_c ((fp_dq m c a % m : Nat) : Int)).toNat = fp_dq m c a % m := by rw [cd, Int.toNat_natCast]
  have sb := fp_sv_b (c := c) (a := a) (show 0 < m by omega) s0 s1
  have tb := fp_tt_b (q := 0) (s := fp_sv st m c a) hw (by omega) sb.1 sb.2
  have eT : ν 80 (fp_dq m c a % m) = fp_tt F 0 (fp_sv st m c a) := hT.1 0 _ hB dm
  have eS : ν 5 0 = F 4 0 := hT.2 0 hB
  have sp := (hw.2.2.2.2.2.2 0 (by omega)).2.2.2
  refine am_go (ct := fun pc => Nat.beq pc 13) am_oX6_putStarts 300 ?_
  conv => whnf
  repeat' first
    | (refine (?_ : am_wp _ _ _ _ _ _ _ _ _ _ _ _); conv => whnf)
    | (refine (?_ : am_sw _ _ _ _); conv => whnf)
    | refine And.intro trivial ?_
    | exact trivial
    | (refine am_aa1 (a := 80) rfl ?_)
    | (rw [rem, ed, eT, show ν 5 (am_c 0).toNat = F 4 0 from eS]; refine x_put 0 (fp_tt F 0 (fp_sv st m c a)) (F 4 0) (by decide) (by decide) tb.1 (by omega) sp.1 sp.2 (fun μ1 f1 y2 y3 y4 => ?_); have f1' : (∀ a b, ¬(30 ≤ a ∧ a ≤ 32 ∧ b = 0) → μ1 a b = ν a b) := f1)
    | (refine kr ?_ _ f1' ⟨y2, y3, y4⟩)
    | (rw [quo]; refine kc ?_ _ _ f1' ⟨y2, y3, y4⟩)
    | refine And.intro (fun h => absurd h (by decide)) (fun _ => ?_)
    | refine And.intro (fun _ => ?_) (fun h => absurd (by decide) h)
    | refine And.intro (fun _ => ?_) (fun _ => ?_)
    | refine And.intro ?_ ?_
  all_goals (first | decide | omega | ((simp only [rem, cd, l0] at *; first | done | omega)) | (rw [rem, cd]; omega) | ((simp only [cm, l0, l1] at *; first | done | omega)) | (exfalso; (simp only [rem, cd, cm, l0, l20] at *; first | done | omega)) | (trace_state; fail))
theorem s_ps1 {l : Launch} {ν : am_N} {Q : Option am_V → am_N → Prop} (F : am_N) (st : Int) (m c a n : Nat) (o5 : Option am_V) (hw : fp_fw 999 F) (m2 : 2 ≤ m) (m20 : m ≤ 20) (hc : c ≤ 100000) (s0 : 0 ≤ st) (s1 : ((m : Int) - 1) * st ≤ 99) (hB : 1 < n) (hn : (n : Int) ≤ F 0 4) (hn3 : n ≤ 3) (hT : fp_TB ν F st m n) (kr : fp_dq m c a % m ≠ 0 → ∀ μ' : am_N, (∀ a b, ¬(30 ≤ a ∧ a ≤ 32 ∧ b = 1) → μ' a b = ν a b) → fp_rw1 μ' F 1 (fp_sv st m c a) → Q none μ') (kc : fp_dq m c a % m = 0 → ∀ (o5 : Option am_V) (μ' : am_N), (∀ a b, ¬(30 ≤ a ∧ a ≤ 32 ∧ b = 1) → μ' a b = ν a b) → fp_rw1 μ' F 1 (fp_sv st m c a) → am_AW l 0 (fun _ => 0) 124 Q 13 [some (.inr (.inr 0)), some (.inl ((c : Int))), some (.inl ((m : Int))), some (.inl ((fp_dq m c (a + 1) : Nat) : Int)), some (.inl (0)), o5] [] μ') : am_AW l 0 (fun _ => 0) 124 Q 13 [some (.inr (.inr 0)), some (.inl (c : Int)), some (.inl (m : Int)), some (.inl ((fp_dq m c a : Nat) : Int)), some (.inl 1), o5] [] ν := by
  have l0 : am_c 0 = 0 := rfl
  have l1 : am_c 1 = 1 := rfl
  have l2 : am_c 2 = 2 := rfl
  have l3 : am_c 3 = 3 := rfl
  have l5 : am_c 5 = 5 := rfl
  have l20 : am_c 20 = 20 := rfl
  have l50 : am_c 50 = 50 := rfl
  have l99 : am_c 99 = 99 := rfl
  have hl := fp_dq_l m c a
  have dm := Nat.mod_lt (fp_dq m c a) (show 0 < m by omega)
  have cm : am_c (m : Int) = (m : Int) := am_cR (by omega) (by omega)
  have cy : am_c ((fp_dq m c a : Nat) : Int) = ((fp_dq m c a : Nat) : Int) := am_cR (by omega) (by omega)
  have rem : (am_c ((fp_dq m c a : Nat) : Int)).tmod (am_c (m : Int)) = ((fp_dq m c a % m : Nat) : Int) := by rw [cy, cm]; exact fp_rmN _ _
  have quo : (am_c ((fp_dq m c a : Nat) : Int)).tdiv (am_c (m : Int)) = ((fp_dq m c (a + 1) : Nat) : Int) := by rw [cy, cm]; exact fp_qmN _ _
  have cd : am_c ((fp_dq m c a % m : Nat) : Int) = ((fp_dq m c a % m : Nat) : Int) := am_cR (by omega) (by omega)
  have ed : (am_c ((fp_dq m c a % m : Nat) : Int)).toNat = fp_dq m c a % m := by rw [cd, Int.toNat_natCast]
  have sb := fp_sv_b (c := c) (a := a) (show 0 < m by omega) s0 s1
  have tb := fp_tt_b (q := 1) (s := fp_sv st m c a) hw (by omega) sb.1 sb.2
  have eT : ν 81 (fp_dq m c a % m) = fp_tt F 1 (fp_sv st m c a) := hT.1 1 _ hB dm
  have eS : ν 5 1 = F 4 1 := hT.2 1 hB
  have sp := (hw.2.2.2.2.2.2 1 (by omega)).2.2.2
  refine am_go (ct := fun pc => Nat.beq pc 13) am_oX6_putStarts 300 ?_
  conv => whnf
  repeat' first
    | (refine (?_ : am_wp _ _ _ _ _ _ _ _ _ _ _ _); conv => whnf)
    | (refine (?_ : am_sw _ _ _ _); conv => whnf)
    | refine And.intro trivial ?_
    | exact trivial
    | (refine am_aa1 (a := 81) rfl ?_)
    | (rw [rem, ed, eT, show ν 5 (am_c 1).toNat = F 4 1 from eS]; refine x_put 1 (fp_tt F 1 (fp_sv st m c a)) (F 4 1) (by decide) (by decide) tb.1 (by omega) sp.1 sp.2 (fun μ1 f1 y2 y3 y4 => ?_); have f1' : (∀ a b, ¬(30 ≤ a ∧ a ≤ 32 ∧ b = 1) → μ1 a b = ν a b) := f1)
    | (refine kr ?_ _ f1' ⟨y2, y3, y4⟩)
    | (rw [quo]; refine kc ?_ _ _ f1' ⟨y2, y3, y4⟩)
    | refine And.intro (fun h => absurd h (by decide)) (fun _ => ?_)
    | refine And.intro (fun _ => ?_) (fun h => absurd (by decide) h)
    | refine And.intro (fun _ => ?_) (fun _ => ?_)
    | refine And.intro ?_ ?_
  all_goals (first | decide | omega | ((simp only [rem, cd, l0] at *; first | done | omega)) | (rw [rem, cd]; omega) | ((simp only [cm, l0, l1] at *; first | done | omega)) | (exfalso; (simp only [rem, cd, cm, l0, l20] at *; first | done | omega)) | (trace_state; fail))
theorem s_ps2 {l : Launch} {ν : am_N} {Q : Option am_V → am_N → Prop} (F : am_N) (st : Int) (m c a n : Nat) (o5 : Option am_V) (hw : fp_fw 999 F) (m2 : 2 ≤ m) (m20 : m ≤ 20) (hc : c ≤ 100000) (s0 : 0 ≤ st) (s1 : ((m : Int) - 1) * st ≤ 99) (hB : 2 < n) (hn : (n : Int) ≤ F 0 4) (hn3 : n ≤ 3) (hT : fp_TB ν F st m n) (kr : fp_dq m c a % m ≠ 0 → ∀ μ' : am_N, (∀ a b, ¬(30 ≤ a ∧ a ≤ 32 ∧ b = 2) → μ' a b = ν a b) → fp_rw1 μ' F 2 (fp_sv st m c a) → Q none μ') (kc : fp_dq m c a % m = 0 → ∀ (o5 : Option am_V) (μ' : am_N), (∀ a b, ¬(30 ≤ a ∧ a ≤ 32 ∧ b = 2) → μ' a b = ν a b) → fp_rw1 μ' F 2 (fp_sv st m c a) → am_AW l 0 (fun _ => 0) 124 Q 13 [some (.inr (.inr 0)), some (.inl ((c : Int))), some (.inl ((m : Int))), some (.inl ((fp_dq m c (a + 1) : Nat) : Int)), some (.inl (1)), o5] [] μ') : am_AW l 0 (fun _ => 0) 124 Q 13 [some (.inr (.inr 0)), some (.inl (c : Int)), some (.inl (m : Int)), some (.inl ((fp_dq m c a : Nat) : Int)), some (.inl 2), o5] [] ν := by
  have l0 : am_c 0 = 0 := rfl
  have l1 : am_c 1 = 1 := rfl
  have l2 : am_c 2 = 2 := rfl
  have l3 : am_c 3 = 3 := rfl
  have l5 : am_c 5 = 5 := rfl
  have l20 : am_c 20 = 20 := rfl
  have l50 : am_c 50 = 50 := rfl
  have l99 : am_c 99 = 99 := rfl
  have hl := fp_dq_l m c a
  have dm := Nat.mod_lt (fp_dq m c a) (show 0 < m by omega)
  have cm : am_c (m : Int) = (m : Int) := am_cR (by omega) (by omega)
  have cy : am_c ((fp_dq m c a : Nat) : Int) = ((fp_dq m c a : Nat) : Int) := am_cR (by omega) (by omega)
  have rem : (am_c ((fp_dq m c a : Nat) : Int)).tmod (am_c (m : Int)) = ((fp_dq m c a % m : Nat) : Int) := by rw [cy, cm]; exact fp_rmN _ _
  have quo : (am_c ((fp_dq m c a : Nat) : Int)).tdiv (am_c (m : Int)) = ((fp_dq m c (a + 1) : Nat) : Int) := by rw [cy, cm]; exact fp_qmN _ _
  have cd : am_c ((fp_dq m c a % m : Nat) : Int) = ((fp_dq m c a % m : Nat) : Int) := am_cR (by omega) (by omega)
  have ed : (am_c ((fp_dq m c a % m : Nat) : Int)).toNat = fp_dq m c a % m := by rw [cd, Int.toNat_natCast]
  have sb := fp_sv_b (c := c) (a := a) (show 0 < m by omega) s0 s1
  have tb := fp_tt_b (q := 2) (s := fp_sv st m c a) hw (by omega) sb.1 sb.2
  have eT : ν 82 (fp_dq m c a % m) = fp_tt F 2 (fp_sv st m c a) := hT.1 2 _ hB dm
  have eS : ν 5 2 = F 4 2 := hT.2 2 hB
  have sp := (hw.2.2.2.2.2.2 2 (by omega)).2.2.2
  refine am_go (ct := fun pc => Nat.beq pc 13) am_oX6_putStarts 300 ?_
  conv => whnf
  repeat' first
    | (refine (?_ : am_wp _ _ _ _ _ _ _ _ _ _ _ _); conv => whnf)
    | (refine (?_ : am_sw _ _ _ _); conv => whnf)
    | refine And.intro trivial ?_
    | exact trivial
    | (refine am_aa1 (a := 82) rfl ?_)
    | (rw [rem, ed, eT, show ν 5 (am_c 2).toNat = F 4 2 from eS]; refine x_put 2 (fp_tt F 2 (fp_sv st m c a)) (F 4 2) (by decide) (by decide) tb.1 (by omega) sp.1 sp.2 (fun μ1 f1 y2 y3 y4 => ?_); have f1' : (∀ a b, ¬(30 ≤ a ∧ a ≤ 32 ∧ b = 2) → μ1 a b = ν a b) := f1)
    | (refine kr ?_ _ f1' ⟨y2, y3, y4⟩)
    | (rw [quo]; refine kc ?_ _ _ f1' ⟨y2, y3, y4⟩)
    | refine And.intro (fun h => absurd h (by decide)) (fun _ => ?_)
    | refine And.intro (fun _ => ?_) (fun h => absurd (by decide) h)
    | refine And.intro (fun _ => ?_) (fun _ => ?_)
    | refine And.intro ?_ ?_
  all_goals (first | decide | omega | ((simp only [rem, cd, l0] at *; first | done | omega)) | (rw [rem, cd]; omega) | ((simp only [cm, l0, l1] at *; first | done | omega)) | (exfalso; (simp only [rem, cd, cm, l0, l20] at *; first | done | omega)) | (trace_state; fail))
theorem s_putStarts1 {l : Launch} {ν : am_N} {Q : Option am_V → am_N → Prop} (F : am_N) (st : Int) (m c : Nat) (hw : fp_fw 999 F) (m2 : 2 ≤ m) (m20 : m ≤ 20) (hc : c ≤ 100000) (s0 : 0 ≤ st) (s1 : ((m : Int) - 1) * st ≤ 99) (hn : ν 1 4 = 1) (h4 : F 0 4 = ((1 : Nat) : Int)) (hT : fp_TB ν F st m 1) (hR : c = 0 ∨ fp_RW ν F st m 1 (c - 1)) (k : ∀ μ' : am_N, (∀ a b, ¬(30 ≤ a ∧ a ≤ 32) → μ' a b = ν a b) → fp_RW μ' F st m 1 c → Q none μ') : am_Does l 124 [.inr (.inr 0), .inl (c : Int), .inl (m : Int)] ν Q := by
  have hn3 : (1 : Nat) ≤ 3 := by decide
  refine am_Does_of (Nat.le_of_ble_eq_true rfl) (Nat.le_of_ble_eq_true rfl) (Nat.le_of_ble_eq_true rfl) ?_
  refine am_go (ct := fun pc => Nat.beq pc 13) am_oX6_putStarts 300 ?_
  conv => whnf
  repeat' first
    | (refine (?_ : am_wp _ _ _ _ _ _ _ _ _ _ _ _); conv => whnf)
    | refine And.intro trivial ?_
  rw [hn]
  refine s_ps0 F st m c 0 1 _ hw m2 m20 hc s0 s1 (by decide) (by rw [h4]; exact Int.le_refl _) hn3 hT (fun d0 μ1 f0 w0 => ?_) (fun d0 o0 μ1 f0 w0 => ?_)
  · refine k _ (fun a b q => (f0 a b (by omega))) (fun q hq => ?_)
    have cz : ¬ c = 0 := fun z => d0 (by rw [z]; exact Nat.zero_mod m)
    obtain rfl : q = 0 := by omega
    exact w0
  · have g0 : (∀ a b, ¬(30 ≤ a ∧ a ≤ 32) → μ1 a b = ν a b) := (fun a b q => (f0 a b (by omega)))
    have r0_0 : fp_rw1 μ1 F 0 (fp_sv st m c 0) := w0
    refine am_go (ct := fun pc => Nat.beq pc 13) am_oX6_putStarts 300 ?_
    conv => whnf
    repeat' first
      | (refine (?_ : am_wp _ _ _ _ _ _ _ _ _ _ _ _); conv => whnf)
      | refine And.intro trivial ?_
      | refine k _ g0 (fun q hq => ?_)
      | refine And.intro (fun _ => ?_) (fun h => absurd h (by decide))
      | refine And.intro (fun h => absurd h (by decide)) (fun _ => ?_)
    obtain rfl : q = 0 := by omega
    exact r0_0
theorem s_putStarts2 {l : Launch} {ν : am_N} {Q : Option am_V → am_N → Prop} (F : am_N) (st : Int) (m c : Nat) (hw : fp_fw 999 F) (m2 : 2 ≤ m) (m20 : m ≤ 20) (hc : c ≤ 100000) (s0 : 0 ≤ st) (s1 : ((m : Int) - 1) * st ≤ 99) (hn : ν 1 4 = 2) (h4 : F 0 4 = ((2 : Nat) : Int)) (hT : fp_TB ν F st m 2) (hR : c = 0 ∨ fp_RW ν F st m 2 (c - 1)) (k : ∀ μ' : am_N, (∀ a b, ¬(30 ≤ a ∧ a ≤ 32) → μ' a b = ν a b) → fp_RW μ' F st m 2 c → Q none μ') : am_Does l 124 [.inr (.inr 0), .inl (c : Int), .inl (m : Int)] ν Q := by
  have hn3 : (2 : Nat) ≤ 3 := by decide
  refine am_Does_of (Nat.le_of_ble_eq_true rfl) (Nat.le_of_ble_eq_true rfl) (Nat.le_of_ble_eq_true rfl) ?_
  refine am_go (ct := fun pc => Nat.beq pc 13) am_oX6_putStarts 300 ?_
  conv => whnf
  repeat' first
    | (refine (?_ : am_wp _ _ _ _ _ _ _ _ _ _ _ _); conv => whnf)
    | refine And.intro trivial ?_
  rw [hn]
  refine s_ps1 F st m c 0 2 _ hw m2 m20 hc s0 s1 (by decide) (by rw [h4]; exact Int.le_refl _) hn3 hT (fun d1 μ2 f1 w1 => ?_) (fun d1 o1 μ2 f1 w1 => ?_)
  · refine k _ (fun a b q => (f1 a b (by omega))) (fun q hq => ?_)
    have cz : ¬ c = 0 := fun z => d1 (by rw [z]; exact Nat.zero_mod m)
    rcases (show q = 0 ∨ q = 1 by omega) with rfl | rfl
    · exact (by have e : fp_sv st m (c - 1) 1 = fp_sv st m c 1 := (by unfold fp_sv; rw [show fp_dq m (c - 1) 1 % m = fp_dq m c 1 % m from (by show (c - 1) / m % m = c / m % m; rw [fp_cA (m := m) (c := c) (by omega) d1])]); have z : fp_rw1 μ2 F 0 (fp_sv st m (c - 1) 1) := fp_rw1_e (hR.resolve_left cz 0 (by decide)) (fun a q1 q2 => (f1 a 0 (by omega))); rw [e] at z; exact z)
    · exact w1
  · have g1 : (∀ a b, ¬(30 ≤ a ∧ a ≤ 32) → μ2 a b = ν a b) := (fun a b q => (f1 a b (by omega)))
    have r1_1 : fp_rw1 μ2 F 1 (fp_sv st m c 0) := w1
    refine s_ps0 F st m c 1 2 _ hw m2 m20 hc s0 s1 (by decide) (by rw [h4]; exact Int.le_refl _) hn3 (fp_TB_e hT g1 hn3) (fun d0 μ1 f0 w0 => ?_) (fun d0 o0 μ1 f0 w0 => ?_)
    · refine k _ (fun a b q => (f0 a b (by omega)).trans (g1 a b q)) (fun q hq => ?_)
      have cz : ¬ c = 0 := fun z => d0 (by rw [z]; show 0 / m % m = 0; rw [Nat.zero_div]; exact Nat.zero_mod m)
      rcases (show q = 0 ∨ q = 1 by omega) with rfl | rfl
      · exact w0
      · exact (fp_rw1_e r1_1 (fun a q1 q2 => f0 a _ (by omega)))
    · have g0 : (∀ a b, ¬(30 ≤ a ∧ a ≤ 32) → μ1 a b = ν a b) := (fun a b q => (f0 a b (by omega)).trans (g1 a b q))
      have r0_1 : fp_rw1 μ1 F 1 (fp_sv st m c 0) := (fp_rw1_e r1_1 (fun a q1 q2 => f0 a _ (by omega)))
      have r0_0 : fp_rw1 μ1 F 0 (fp_sv st m c 1) := w0
      refine am_go (ct := fun pc => Nat.beq pc 13) am_oX6_putStarts 300 ?_
      conv => whnf
      repeat' first
        | (refine (?_ : am_wp _ _ _ _ _ _ _ _ _ _ _ _); conv => whnf)
        | refine And.intro trivial ?_
        | refine k _ g0 (fun q hq => ?_)
        | refine And.intro (fun _ => ?_) (fun h => absurd h (by decide))
        | refine And.intro (fun h => absurd h (by decide)) (fun _ => ?_)
      rcases (show q = 0 ∨ q = 1 by omega) with rfl | rfl
      · exact r0_0
      · exact r0_1
theorem s_putStarts3 {l : Launch} {ν : am_N} {Q : Option am_V → am_N → Prop} (F : am_N) (st : Int) (m c : Nat) (hw : fp_fw 999 F) (m2 : 2 ≤ m) (m20 : m ≤ 20) (hc : c ≤ 100000) (s0 : 0 ≤ st) (s1 : ((m : Int) - 1) * st ≤ 99) (hn : ν 1 4 = 3) (h4 : F 0 4 = ((3 : Nat) : Int)) (hT : fp_TB ν F st m 3) (hR : c = 0 ∨ fp_RW ν F st m 3 (c - 1)) (k : ∀ μ' : am_N, (∀ a b, ¬(30 ≤ a ∧ a ≤ 32) → μ' a b = ν a b) → fp_RW μ' F st m 3 c → Q none μ') : am_Does l 124 [.inr (.inr 0), .inl (c : Int), .inl (m : Int)] ν Q := by
  have hn3 : (3 : Nat) ≤ 3 := by decide
  refine am_Does_of (Nat.le_of_ble_eq_true rfl) (Nat.le_of_ble_eq_true rfl) (Nat.le_of_ble_eq_true rfl) ?_
  refine am_go (ct := fun pc => Nat.beq pc 13) am_oX6_putStarts 300 ?_
  conv => whnf
  repeat' first
    | (refine (?_ : am_wp _ _ _ _ _ _ _ _ _ _ _ _); conv => whnf)
    | refine And.intro trivial ?_
  rw [hn]
  refine s_ps2 F st m c 0 3 _ hw m2 m20 hc s0 s1 (by decide) (by rw [h4]; exact Int.le_refl _) hn3 hT (fun d2 μ3 f2 w2 => ?_) (fun d2 o2 μ3 f2 w2 => ?_)
  · refine k _ (fun a b q => (f2 a b (by omega))) (fun q hq => ?_)
    have cz : ¬ c = 0 := fun z => d2 (by rw [z]; exact Nat.zero_mod m)
    rcases (show q = 0 ∨ q = 1 ∨ q = 2 by omega) with rfl | rfl | rfl
    · exact (by have e : fp_sv st m (c - 1) 2 = fp_sv st m c 2 := (by unfold fp_sv; rw [show fp_dq m (c - 1) 2 % m = fp_dq m c 2 % m from (by show (c - 1) / m / m % m = c / m / m % m; rw [fp_cA (m := m) (c := c) (by omega) d2])]); have z : fp_rw1 μ3 F 0 (fp_sv st m (c - 1) 2) := fp_rw1_e (hR.resolve_left cz 0 (by decide)) (fun a q1 q2 => (f2 a 0 (by omega))); rw [e] at z; exact z)
    · exact (by have e : fp_sv st m (c - 1) 1 = fp_sv st m c 1 := (by unfold fp_sv; rw [show fp_dq m (c - 1) 1 % m = fp_dq m c 1 % m from (by show (c - 1) / m % m = c / m % m; rw [fp_cA (m := m) (c := c) (by omega) d2])]); have z : fp_rw1 μ3 F 1 (fp_sv st m (c - 1) 1) := fp_rw1_e (hR.resolve_left cz 1 (by decide)) (fun a q1 q2 => (f2 a 1 (by omega))); rw [e] at z; exact z)
    · exact w2
  · have g2 : (∀ a b, ¬(30 ≤ a ∧ a ≤ 32) → μ3 a b = ν a b) := (fun a b q => (f2 a b (by omega)))
    have r2_2 : fp_rw1 μ3 F 2 (fp_sv st m c 0) := w2
    refine s_ps1 F st m c 1 3 _ hw m2 m20 hc s0 s1 (by decide) (by rw [h4]; exact Int.le_refl _) hn3 (fp_TB_e hT g2 hn3) (fun d1 μ2 f1 w1 => ?_) (fun d1 o1 μ2 f1 w1 => ?_)
    · refine k _ (fun a b q => (f1 a b (by omega)).trans (g2 a b q)) (fun q hq => ?_)
      have cz : ¬ c = 0 := fun z => d1 (by rw [z]; show 0 / m % m = 0; rw [Nat.zero_div]; exact Nat.zero_mod m)
      rcases (show q = 0 ∨ q = 1 ∨ q = 2 by omega) with rfl | rfl | rfl
      · exact (by have e : fp_sv st m (c - 1) 2 = fp_sv st m c 2 := (by unfold fp_sv; rw [show fp_dq m (c - 1) 2 % m = fp_dq m c 2 % m from (by show (c - 1) / m / m % m = c / m / m % m; rw [fp_cB (m := m) (c := c) (by omega) d2 d1])]); have z : fp_rw1 μ2 F 0 (fp_sv st m (c - 1) 2) := fp_rw1_e (hR.resolve_left cz 0 (by decide)) (fun a q1 q2 => (f1 a 0 (by omega)).trans (g2 a 0 (by omega))); rw [e] at z; exact z)
      · exact w1
      · exact (fp_rw1_e r2_2 (fun a q1 q2 => f1 a _ (by omega)))
    · have g1 : (∀ a b, ¬(30 ≤ a ∧ a ≤ 32) → μ2 a b = ν a b) := (fun a b q => (f1 a b (by omega)).trans (g2 a b q))
      have r1_2 : fp_rw1 μ2 F 2 (fp_sv st m c 0) := (fp_rw1_e r2_2 (fun a q1 q2 => f1 a _ (by omega)))
      have r1_1 : fp_rw1 μ2 F 1 (fp_sv st m c 1) := w1
      refine s_ps0 F st m c 2 3 _ hw m2 m20 hc s0 s1 (by decide) (by rw [h4]; exact Int.le_refl _) hn3 (fp_TB_e hT g1 hn3) (fun d0 μ1 f0 w0 => ?_) (fun d0 o0 μ1 f0 w0 => ?_)
      · refine k _ (fun a b q => (f0 a b (by omega)).trans (g1 a b q)) (fun q hq => ?_)
        have cz : ¬ c = 0 := fun z => d0 (by rw [z]; show 0 / m / m % m = 0; rw [Nat.zero_div, Nat.zero_div]; exact Nat.zero_mod m)
        rcases (show q = 0 ∨ q = 1 ∨ q = 2 by omega) with rfl | rfl | rfl
        · exact w0
        · exact (fp_rw1_e r1_1 (fun a q1 q2 => f0 a _ (by omega)))
        · exact (fp_rw1_e r1_2 (fun a q1 q2 => f0 a _ (by omega)))
      · have g0 : (∀ a b, ¬(30 ≤ a ∧ a ≤ 32) → μ1 a b = ν a b) := (fun a b q => (f0 a b (by omega)).trans (g1 a b q))
        have r0_2 : fp_rw1 μ1 F 2 (fp_sv st m c 0) := (fp_rw1_e r1_2 (fun a q1 q2 => f0 a _ (by omega)))
        have r0_1 : fp_rw1 μ1 F 1 (fp_sv st m c 1) := (fp_rw1_e r1_1 (fun a q1 q2 => f0 a _ (by omega)))
        have r0_0 : fp_rw1 μ1 F 0 (fp_sv st m c 2) := w0
        refine am_go (ct := fun pc => Nat.beq pc 13) am_oX6_putStarts 300 ?_
        conv => whnf
        repeat' first
          | (refine (?_ : am_wp _ _ _ _ _ _ _ _ _ _ _ _); conv => whnf)
          | refine And.intro trivial ?_
          | refine k _ g0 (fun q hq => ?_)
          | refine And.intro (fun _ => ?_) (fun h => absurd h (by decide))
          | refine And.intro (fun h => absurd h (by decide)) (fun _ => ?_)
        rcases (show q = 0 ∨ q = 1 ∨ q = 2 by omega) with rfl | rfl | rfl
        · exact r0_0
        · exact r0_1
        · exact r0_2
theorem s_evr0 {l : Launch} {ν : am_N} {Q : Option am_V → am_N → Prop} (st : Int) (m : Nat) (x : Int) (o5 : Option am_V) (hw : fp_fw 999 (fv ν 1)) (m2 : 2 ≤ m) (m20 : m ≤ 20) (s0 : 0 ≤ st) (st1 : st ≤ 50) (s1 : ((m : Int) - 1) * st ≤ 99) (hB : 0 < ν 1 4) (k5 : ∀ (o5 : Option am_V) (μ' : am_N), (∀ a b, a ≠ 80 → μ' a b = ν a b) → (∀ k : Nat, k < m → μ' 80 k = fp_tt (fv ν 1) 0 ((k : Int) * st)) → am_AW l 0 (fun _ => 0) 123 Q 5 [some (.inr (.inr 0)), some (.inl st), some (.inl (m : Int)), some (.inl (x * (m : Int))), some (.inl (0 + 1)), o5, none, none] [] μ') : am_AW l 0 (fun _ => 0) 123 Q 5 [some (.inr (.inr 0)), some (.inl st), some (.inl (m : Int)), some (.inl x), some (.inl 0), o5, none, none] [] ν := by
  have l0 : am_c 0 = 0 := rfl
  have l1 : am_c 1 = 1 := rfl
  have l2 : am_c 2 = 2 := rfl
  have l3 : am_c 3 = 3 := rfl
  have l5 : am_c 5 = 5 := rfl
  have l20 : am_c 20 = 20 := rfl
  have l50 : am_c 50 = 50 := rfl
  have l99 : am_c 99 = 99 := rfl
  have n14 := (fw_C hw (by decide)).1.1
  have cn : am_c (ν 1 4) = ν 1 4 := am_cR (by omega) (by omega)
  have cm : am_c (m : Int) = (m : Int) := am_cR (by omega) (by omega)
  have lp34 : ∀ (m : Nat) (h : Int) (μ : am_N) , (∀ a b, a ≠ 80 → μ a b = ν a b) → 0 ≤ h → h ≤ (m : Int) → (∀ k : Nat, (k : Int) < h → μ 80 k = fp_tt (fv ν 1) 0 ((k : Int) * st)) → (m : Int) - h < (m : Int) → am_AW l 0 (fun _ => 0) 123 Q 34 [some (.inr (.inr 0)), some (.inl st), some (.inl (m : Int)), some (.inl (x * (m : Int))), some (.inl 0), some (.inl h), none, none] [] μ := by
    intro m
    induction m with
    | zero =>
      intro h μ hv0 hv1 hv2 hv3 hm
      exfalso
      omega
    | succ m ih =>
      intro h μ hv0 hv1 hv2 hv3 hm
      have ch : am_c h = h := am_cR (by omega) (by omega)
      have eh : (am_c h).toNat = h.toNat := by rw [ch]
      have eF : fv μ 1 = (fv ν 1) := fv_keep (fun a b q1 q2 => hv0 a b (by omega))
      have e14 : μ 1 4 = ν 1 4 := hv0 1 4 (by decide)
      have hst := fun z : h < (m : Int) => am_mulb (a := h) (A := (m : Int) - 1) (b := st) (B := st) hv1 (by omega) s0 (Int.le_refl _)
      refine am_go (ct := fun pc => Nat.beq pc 34 || Nat.beq pc 5) am_oX6_evenest 300 ?_
      conv => whnf
      repeat' first
        | (refine (?_ : am_wp _ _ _ _ _ _ _ _ _ _ _ _); conv => whnf)
        | (refine (?_ : am_sw _ _ _ _); conv => whnf)
        | refine And.intro trivial ?_
        | exact trivial
        | (refine am_aa1 (a := 80) rfl ?_)
        | (have hm' : h < (m : Int) := (by (simp only [ch, cm] at *; first | done | omega)); (first | have hst := hst hm' | skip); refine s_tenthsFrom 0 (h * st) (by rw [eF]; exact hw) (by decide) (by rw [e14]; exact hB) hst.1 (by omega) (fun v ev v0 v1 => ?_); rw [eF] at ev)
        | (refine k5 _ _ hv0 (fun k hk => hv3 k (by (simp only [ch, cm] at *; first | done | omega))))
        | (refine am_aa1 (a := 80) rfl ?_)
        | refine ih _ _ ?_ ?_ ?_ ?_ ?_
        | refine And.intro (fun h => absurd h (by decide)) (fun _ => ?_)
        | refine And.intro (fun _ => ?_) (fun h => absurd (by decide) h)
        | refine And.intro (fun _ => ?_) (fun _ => ?_)
        | refine And.intro ?_ ?_
      all_goals (first | decide | assumption | omega | (rw [ch]; (simp only [ch, cm] at *; first | done | omega)) | (intro a b q; rw [am_upN q]; exact hv0 a b q) | (intro k hk; by_cases d : (k : Int) = h; (rw [am_upS, if_pos ⟨rfl, by rw [eh]; omega⟩, ev, d]; rfl); (rw [am_upM (by rw [eh]; omega)]; exact hv3 k (by omega))) | (trace_state; fail))
  have lp34' : ∀ (h : Int) (μ : am_N) , (∀ a b, a ≠ 80 → μ a b = ν a b) → 0 ≤ h → h ≤ (m : Int) → (∀ k : Nat, (k : Int) < h → μ 80 k = fp_tt (fv ν 1) 0 ((k : Int) * st)) → am_AW l 0 (fun _ => 0) 123 Q 34 [some (.inr (.inr 0)), some (.inl st), some (.inl (m : Int)), some (.inl (x * (m : Int))), some (.inl 0), some (.inl h), none, none] [] μ := fun h μ hv0 hv1 hv2 hv3 => lp34 (((m : Int) - h) + 1).toNat h μ hv0 hv1 hv2 hv3 (by omega)
  refine am_go (ct := fun pc => Nat.beq pc 34 || Nat.beq pc 5) am_oX6_evenest 300 ?_
  conv => whnf
  repeat' first
    | (refine (?_ : am_wp _ _ _ _ _ _ _ _ _ _ _ _); conv => whnf)
    | (refine (?_ : am_sw _ _ _ _); conv => whnf)
    | refine And.intro trivial ?_
    | exact trivial
    | (refine am_aa1 (a := 80) rfl ?_)
    | refine lp34' _ _ ?_ ?_ ?_ ?_
    | refine And.intro (fun h => absurd h (by decide)) (fun _ => ?_)
    | refine And.intro (fun _ => ?_) (fun h => absurd (by decide) h)
    | refine And.intro (fun _ => ?_) (fun _ => ?_)
    | refine And.intro ?_ ?_
  all_goals (first | decide | assumption | omega | ((simp only [cn] at *; first | done | omega)) | (exfalso; (simp only [cn] at *; first | done | omega)) | (intros; rfl) | (intro k hk; exact absurd hk (by omega)) | (trace_state; fail))
theorem s_evr1 {l : Launch} {ν : am_N} {Q : Option am_V → am_N → Prop} (st : Int) (m : Nat) (x : Int) (o5 : Option am_V) (hw : fp_fw 999 (fv ν 1)) (m2 : 2 ≤ m) (m20 : m ≤ 20) (s0 : 0 ≤ st) (st1 : st ≤ 50) (s1 : ((m : Int) - 1) * st ≤ 99) (hB : 1 < ν 1 4) (k5 : ∀ (o5 : Option am_V) (μ' : am_N), (∀ a b, a ≠ 81 → μ' a b = ν a b) → (∀ k : Nat, k < m → μ' 81 k = fp_tt (fv ν 1) 1 ((k : Int) * st)) → am_AW l 0 (fun _ => 0) 123 Q 5 [some (.inr (.inr 0)), some (.inl st), some (.inl (m : Int)), some (.inl (x * (m : Int))), some (.inl (1 + 1)), o5, none, none] [] μ') : am_AW l 0 (fun _ => 0) 123 Q 5 [some (.inr (.inr 0)), some (.inl st), some (.inl (m : Int)), some (.inl x), some (.inl 1), o5, none, none] [] ν := by
  have l0 : am_c 0 = 0 := rfl
  have l1 : am_c 1 = 1 := rfl
  have l2 : am_c 2 = 2 := rfl
  have l3 : am_c 3 = 3 := rfl
  have l5 : am_c 5 = 5 := rfl
  have l20 : am_c 20 = 20 := rfl
  have l50 : am_c 50 = 50 := rfl
  have l99 : am_c 99 = 99 := rfl
  have n14 := (fw_C hw (by decide)).1.1
  have cn : am_c (ν 1 4) = ν 1 4 := am_cR (by omega) (by omega)
  have cm : am_c (m : Int) = (m : Int) := am_cR (by omega) (by omega)
  have lp34 : ∀ (m : Nat) (h : Int) (μ : am_N) , (∀ a b, a ≠ 81 → μ a b = ν a b) → 0 ≤ h → h ≤ (m : Int) → (∀ k : Nat, (k : Int) < h → μ 81 k = fp_tt (fv ν 1) 1 ((k : Int) * st)) → (m : Int) - h < (m : Int) → am_AW l 0 (fun _ => 0) 123 Q 34 [some (.inr (.inr 0)), some (.inl st), some (.inl (m : Int)), some (.inl (x * (m : Int))), some (.inl 1), some (.inl h), none, none] [] μ := by
    intro m
    induction m with
    | zero =>
      intro h μ hv0 hv1 hv2 hv3 hm
      exfalso
      omega
    | succ m ih =>
      intro h μ hv0 hv1 hv2 hv3 hm
      have ch : am_c h = h := am_cR (by omega) (by omega)
      have eh : (am_c h).toNat = h.toNat := by rw [ch]
      have eF : fv μ 1 = (fv ν 1) := fv_keep (fun a b q1 q2 => hv0 a b (by omega))
      have e14 : μ 1 4 = ν 1 4 := hv0 1 4 (by decide)
      have hst := fun z : h < (m : Int) => am_mulb (a := h) (A := (m : Int) - 1) (b := st) (B := st) hv1 (by omega) s0 (Int.le_refl _)
      refine am_go (ct := fun pc => Nat.beq pc 34 || Nat.beq pc 5) am_oX6_evenest 300 ?_
      conv => whnf
      repeat' first
        | (refine (?_ : am_wp _ _ _ _ _ _ _ _ _ _ _ _); conv => whnf)
        | (refine (?_ : am_sw _ _ _ _); conv => whnf)
        | refine And.intro trivial ?_
        | exact trivial
        | (refine am_aa1 (a := 81) rfl ?_)
        | (have hm' : h < (m : Int) := (by (simp only [ch, cm] at *; first | done | omega)); (first | have hst := hst hm' | skip); refine s_tenthsFrom 1 (h * st) (by rw [eF]; exact hw) (by decide) (by rw [e14]; exact hB) hst.1 (by omega) (fun v ev v0 v1 => ?_); rw [eF] at ev)
        | (refine k5 _ _ hv0 (fun k hk => hv3 k (by (simp only [ch, cm] at *; first | done | omega))))
        | (refine am_aa1 (a := 81) rfl ?_)
        | refine ih _ _ ?_ ?_ ?_ ?_ ?_
        | refine And.intro (fun h => absurd h (by decide)) (fun _ => ?_)
        | refine And.intro (fun _ => ?_) (fun h => absurd (by decide) h)
        | refine And.intro (fun _ => ?_) (fun _ => ?_)
        | refine And.intro ?_ ?_
      all_goals (first | decide | assumption | omega | (rw [ch]; (simp only [ch, cm] at *; first | done | omega)) | (intro a b q; rw [am_upN q]; exact hv0 a b q) | (intro k hk; by_cases d : (k : Int) = h; (rw [am_upS, if_pos ⟨rfl, by rw [eh]; omega⟩, ev, d]; rfl); (rw [am_upM (by rw [eh]; omega)]; exact hv3 k (by omega))) | (trace_state; fail))
  have lp34' : ∀ (h : Int) (μ : am_N) , (∀ a b, a ≠ 81 → μ a b = ν a b) → 0 ≤ h → h ≤ (m : Int) → (∀ k : Nat, (k : Int) < h → μ 81 k = fp_tt (fv ν 1) 1 ((k : Int) * st)) → am_AW l 0 (fun _ => 0) 123 Q 34 [some (.inr (.inr 0)), some (.inl st), some (.inl (m : Int)), some (.inl (x * (m : Int))), some (.inl 1), some (.inl h), none, none] [] μ := fun h μ hv0 hv1 hv2 hv3 => lp34 (((m : Int) - h) + 1).toNat h μ hv0 hv1 hv2 hv3 (by omega)
  refine am_go (ct := fun pc => Nat.beq pc 34 || Nat.beq pc 5) am_oX6_evenest 300 ?_
  conv => whnf
  repeat' first
    | (refine (?_ : am_wp _ _ _ _ _ _ _ _ _ _ _ _); conv => whnf)
    | (refine (?_ : am_sw _ _ _ _); conv => whnf)
    | refine And.intro trivial ?_
    | exact trivial
    | (refine am_aa1 (a := 81) rfl ?_)
    | refine lp34' _ _ ?_ ?_ ?_ ?_
    | refine And.intro (fun h => absurd h (by decide)) (fun _ => ?_)
    | refine And.intro (fun _ => ?_) (fun h => absurd (by decide) h)
    | refine And.intro (fun _ => ?_) (fun _ => ?_)
    | refine And.intro ?_ ?_
  all_goals (first | decide | assumption | omega | ((simp only [cn] at *; first | done | omega)) | (exfalso; (simp only [cn] at *; first | done | omega)) | (intros; rfl) | (intro k hk; exact absurd hk (by omega)) | (trace_state; fail))
theorem s_evr2 {l : Launch} {ν : am_N} {Q : Option am_V → am_N → Prop} (st : Int) (m : Nat) (x : Int) (o5 : Option am_V) (hw : fp_fw 999 (fv ν 1)) (m2 : 2 ≤ m) (m20 : m ≤ 20) (s0 : 0 ≤ st) (st1 : st ≤ 50) (s1 : ((m : Int) - 1) * st ≤ 99) (hB : 2 < ν 1 4) (k5 : ∀ (o5 : Option am_V) (μ' : am_N), (∀ a b, a ≠ 82 → μ' a b = ν a b) → (∀ k : Nat, k < m → μ' 82 k = fp_tt (fv ν 1) 2 ((k : Int) * st)) → am_AW l 0 (fun _ => 0) 123 Q 5 [some (.inr (.inr 0)), some (.inl st), some (.inl (m : Int)), some (.inl (x * (m : Int))), some (.inl (2 + 1)), o5, none, none] [] μ') : am_AW l 0 (fun _ => 0) 123 Q 5 [some (.inr (.inr 0)), some (.inl st), some (.inl (m : Int)), some (.inl x), some (.inl 2), o5, none, none] [] ν := by
  have l0 : am_c 0 = 0 := rfl
  have l1 : am_c 1 = 1 := rfl
  have l2 : am_c 2 = 2 := rfl
  have l3 : am_c 3 = 3 := rfl
  have l5 : am_c 5 = 5 := rfl
  have l20 : am_c 20 = 20 := rfl
  have l50 : am_c 50 = 50 := rfl
  have l99 : am_c 99 = 99 := rfl
  have n14 := (fw_C hw (by decide)).1.1
  have cn : am_c (ν 1 4) = ν 1 4 := am_cR (by omega) (by omega)
  have cm : am_c (m : Int) = (m : Int) := am_cR (by omega) (by omega)
  have lp34 : ∀ (m : Nat) (h : Int) (μ : am_N) , (∀ a b, a ≠ 82 → μ a b = ν a b) → 0 ≤ h → h ≤ (m : Int) → (∀ k : Nat, (k : Int) < h → μ 82 k = fp_tt (fv ν 1) 2 ((k : Int) * st)) → (m : Int) - h < (m : Int) → am_AW l 0 (fun _ => 0) 123 Q 34 [some (.inr (.inr 0)), some (.inl st), some (.inl (m : Int)), some (.inl (x * (m : Int))), some (.inl 2), some (.inl h), none, none] [] μ := by
    intro m
    induction m with
    | zero =>
      intro h μ hv0 hv1 hv2 hv3 hm
      exfalso
      omega
    | succ m ih =>
      intro h μ hv0 hv1 hv2 hv3 hm
      have ch : am_c h = h := am_cR (by omega) (by omega)
      have eh : (am_c h).toNat = h.toNat := by rw [ch]
      have eF : fv μ 1 = (fv ν 1) := fv_keep (fun a b q1 q2 => hv0 a b (by omega))
      have e14 : μ 1 4 = ν 1 4 := hv0 1 4 (by decide)
      have hst := fun z : h < (m : Int) => am_mulb (a := h) (A := (m : Int) - 1) (b := st) (B := st) hv1 (by omega) s0 (Int.le_refl _)
      refine am_go (ct := fun pc => Nat.beq pc 34 || Nat.beq pc 5) am_oX6_evenest 300 ?_
      conv => whnf
      repeat' first
        | (refine (?_ : am_wp _ _ _ _ _ _ _ _ _ _ _ _); conv => whnf)
        | (refine (?_ : am_sw _ _ _ _); conv => whnf)
        | refine And.intro trivial ?_
        | exact trivial
        | (refine am_aa1 (a := 82) rfl ?_)
        | (have hm' : h < (m : Int) := (by (simp only [ch, cm] at *; first | done | omega)); (first | have hst := hst hm' | skip); refine s_tenthsFrom 2 (h * st) (by rw [eF]; exact hw) (by decide) (by rw [e14]; exact hB) hst.1 (by omega) (fun v ev v0 v1 => ?_); rw [eF] at ev)
        | (refine k5 _ _ hv0 (fun k hk => hv3 k (by (simp only [ch, cm] at *; first | done | omega))))
        | (refine am_aa1 (a := 82) rfl ?_)
        | refine ih _ _ ?_ ?_ ?_ ?_ ?_
        | refine And.intro (fun h => absurd h (by decide)) (fun _ => ?_)
        | refine And.intro (fun _ => ?_) (fun h => absurd (by decide) h)
        | refine And.intro (fun _ => ?_) (fun _ => ?_)
        | refine And.intro ?_ ?_
      all_goals (first | decide | assumption | omega | (rw [ch]; (simp only [ch, cm] at *; first | done | omega)) | (intro a b q; rw [am_upN q]; exact hv0 a b q) | (intro k hk; by_cases d : (k : Int) = h; (rw [am_upS, if_pos ⟨rfl, by rw [eh]; omega⟩, ev, d]; rfl); (rw [am_upM (by rw [eh]; omega)]; exact hv3 k (by omega))) | (trace_state; fail))
  have lp34' : ∀ (h : Int) (μ : am_N) , (∀ a b, a ≠ 82 → μ a b = ν a b) → 0 ≤ h → h ≤ (m : Int) → (∀ k : Nat, (k : Int) < h → μ 82 k = fp_tt (fv ν 1) 2 ((k : Int) * st)) → am_AW l 0 (fun _ => 0) 123 Q 34 [some (.inr (.inr 0)), some (.inl st), some (.inl (m : Int)), some (.inl (x * (m : Int))), some (.inl 2), some (.inl h), none, none] [] μ := fun h μ hv0 hv1 hv2 hv3 => lp34 (((m : Int) - h) + 1).toNat h μ hv0 hv1 hv2 hv3 (by omega)
  refine am_go (ct := fun pc => Nat.beq pc 34 || Nat.beq pc 5) am_oX6_evenest 300 ?_
  conv => whnf
  repeat' first
    | (refine (?_ : am_wp _ _ _ _ _ _ _ _ _ _ _ _); conv => whnf)
    | (refine (?_ : am_sw _ _ _ _); conv => whnf)
    | refine And.intro trivial ?_
    | exact trivial
    | (refine am_aa1 (a := 82) rfl ?_)
    | refine lp34' _ _ ?_ ?_ ?_ ?_
    | refine And.intro (fun h => absurd h (by decide)) (fun _ => ?_)
    | refine And.intro (fun _ => ?_) (fun h => absurd (by decide) h)
    | refine And.intro (fun _ => ?_) (fun _ => ?_)
    | refine And.intro ?_ ?_
  all_goals (first | decide | assumption | omega | ((simp only [cn] at *; first | done | omega)) | (exfalso; (simp only [cn] at *; first | done | omega)) | (intros; rfl) | (intro k hk; exact absurd hk (by omega)) | (trace_state; fail))
theorem s_evx1 {l : Launch} {ν : am_N} {Q : Option am_V → am_N → Prop} (st : Int) (m : Nat) (o5 : Option am_V) (hw : fp_fw 999 (fv ν 1)) (m2 : 2 ≤ m) (m20 : m ≤ 20) (s0 : 0 ≤ st) (s1 : ((m : Int) - 1) * st ≤ 99) (hn : ν 1 4 = 1) (hT : fp_TB ν (fv ν 1) st m 1) (k : ∀ μ' : am_N, (∀ a b, ¬(30 ≤ a ∧ a ≤ 32) → ¬(a = 29 ∧ b = 0) → μ' a b = ν a b) → μ' 29 0 = 1 → Q (some (.inl ((fp_sb3 (fv ν 1) st m 1 : Nat) : Int))) μ') : am_AW l 0 (fun _ => 0) 123 Q 5 [some (.inr (.inr 0)), some (.inl st), some (.inl (m : Int)), some (.inl (fp_pw (m : Int) 1)), some (.inl 1), o5, none, none] [] ν := by
  have l0 : am_c 0 = 0 := rfl
  have l1 : am_c 1 = 1 := rfl
  have l2 : am_c 2 = 2 := rfl
  have l3 : am_c 3 = 3 := rfl
  have l5 : am_c 5 = 5 := rfl
  have l20 : am_c 20 = 20 := rfl
  have l50 : am_c 50 = 50 := rfl
  have l99 : am_c 99 = 99 := rfl
  have pb := fp_pw_b (m := (m : Int)) (by omega) (by omega) 1 (by decide)
  have cA : am_c (fp_pw (m : Int) 1) = (fp_pw (m : Int) 1) := am_cR (by omega) (by omega)
  have cn : am_c (ν 1 4) = 1 := by rw [hn]; rfl
  have e4 : fv ν 1 0 4 = ((1 : Nat) : Int) := (fv_0 (by decide)).trans hn
  have ub := fun c : Nat => fp_um_b (F := (fv ν 1)) (st := st) (m := m) (n := 1) (c := c) (by rw [e4]; decide) (by rw [e4]; decide)
  have kk := fun (x : Int) (μ' : am_N) (f : (∀ a b, ¬(30 ≤ a ∧ a ≤ 32) → ¬(a = 29 ∧ b = 0) → μ' a b = ν a b)) (e29 : μ' 29 0 = 1) (e : x = ((fp_sb3 (fv ν 1) st m 1 : Nat) : Int)) => am_qe (k μ' f e29) e
  have lp111 : ∀ (m : Nat) (t y c : Int) (o7 : Option am_V) (μ : am_N) , (∀ a b, ¬(30 ≤ a ∧ a ≤ 32) → ¬(a = 29 ∧ b = 0) → μ a b = ν a b) → μ 29 0 = 1 → 0 ≤ c → c ≤ (fp_pw (m : Int) 1) → c = 0 ∨ fp_RW μ (fv ν 1) st m 1 (c.toNat - 1) → (c = 0 ∧ t = 0 ∧ y = 1) ∨ (1 ≤ c ∧ t = ((fq_m (fp_um (fv ν 1) st m 1) (c.toNat - 1) : Nat) : Int) ∧ y = (fp_um (fv ν 1) st m 1) (fq_m (fp_um (fv ν 1) st m 1) (c.toNat - 1))) → (fp_pw (m : Int) 1) - c < (m : Int) → am_AW l 0 (fun _ => 0) 123 Q 111 [some (.inr (.inr 0)), some (.inl st), some (.inl (m : Int)), some (.inl (fp_pw (m : Int) 1)), some (.inl t), some (.inl y), some (.inl c), o7] [] μ := by
    intro m
    induction m with
    | zero =>
      intro t y c o7 μ hv0 hv1 hv2 hv3 hv4 hv5 hm
      exfalso
      omega
    | succ m ih =>
      intro t y c o7 μ hv0 hv1 hv2 hv3 hv4 hv5 hm
      have cc : am_c c = c := am_cR (by omega) (by omega)
      have ec : ((c.toNat : Nat) : Int) = c := Int.toNat_of_nonneg hv2
      have e14 : μ 1 4 = 1 := (hv0 1 4 (by decide) (by omega)).trans hn
      have hT2 : fp_TB μ (fv ν 1) st m 1 := ⟨fun r h q1 q2 => (hv0 (80 + r) h (by omega) (by omega)).trans (hT.1 r h q1 q2), fun r q => (hv0 5 r (by omega) (by omega)).trans (hT.2 r q)⟩
      have yb : 0 ≤ y ∧ y ≤ 256 := by rcases hv5 with z | z; (omega); (have x := ub (fq_m (fp_um (fv ν 1) st m 1) (c.toNat - 1)); omega)
      have cy : am_c y = y := am_cR (by omega) (by omega)
      have uc := ub c.toNat
      have cu : am_c ((fp_um (fv ν 1) st m 1) c.toNat) = (fp_um (fv ν 1) st m 1) c.toNat := am_cR (by omega) (by omega)
      refine am_go (ct := fun pc => Nat.beq pc 111) am_oX6_evenest 300 ?_
      conv => whnf
      repeat' first
        | (refine (?_ : am_wp _ _ _ _ _ _ _ _ _ _ _ _); conv => whnf)
        | (refine (?_ : am_sw _ _ _ _); conv => whnf)
        | refine And.intro trivial ?_
        | exact trivial
        | (rw [← ec]; refine s_putStarts1 (fv ν 1) st m c.toNat hw m2 m20 (by omega) s0 s1 e14 e4 hT2 (by rcases hv4 with z | z; (exact Or.inl (by omega)); (exact Or.inr z)) (fun μ2 f2 w2 => ?_); rw [ec]; have n2 : μ2 29 0 = 1 := (f2 29 0 (by decide)).trans hv1)
        | (refine x_uneven (fp_se (fv ν 1) st m 1 c.toNat) (by rw [n2]; decide) (by rw [n2]; decide) (by rw [n2, fp_se_0 (by decide)]; exact e4) (fun j hj => by rw [n2] at hj; have z := w2 j (by omega); have sb := fp_sv_b (st := st) (m := m) (c := c.toNat) (a := 1 - 1 - j) (by omega) s0 s1; have tb := fp_tt_b (F := (fv ν 1)) (q := j) (s := fp_sv st m c.toNat (1 - 1 - j)) hw (by rw [e4]; exact hj) sb.1 sb.2; have sp := (hw.2.2.2.2.2.2 j (by rw [e4]; exact hj)).2.2.2; have pb := fp_pt_b (t := fp_tt (fv ν 1) j (fp_sv st m c.toNat (1 - 1 - j))) (s := (fv ν 1) 4 j) (q := 0) tb.1 (by omega) sp.1 sp.2; rw [z.1, z.2.1, z.2.2]; omega) (fun r hr => by rw [n2] at hr ⊢; exact fp_RW_l w2 (by decide) (by omega) e4) ?_; have e6 : fp_un (fp_se (fv ν 1) st m 1 c.toNat) = (fp_um (fv ν 1) st m 1) c.toNat := rfl; rw [e6])
        | (refine kk _ _ hv0 hv1 ?_)
        | refine ih _ _ _ _ _ ?_ ?_ ?_ ?_ ?_ ?_ ?_
        | refine And.intro (fun h => absurd h (by decide)) (fun _ => ?_)
        | refine And.intro (fun _ => ?_) (fun h => absurd (by decide) h)
        | refine And.intro (fun _ => ?_) (fun _ => ?_)
        | refine And.intro ?_ ?_
      all_goals (first | decide | assumption | omega | (intro a b q1 q2; exact (f2 a b q1).trans (hv0 a b q1 q2)) | ((simp only [cc, cA] at *; first | done | omega)) | (refine Or.inr ?_; rw [show (c + 1).toNat - 1 = c.toNat by omega]; exact w2) | (refine Or.inr ⟨by omega, ?_⟩; rcases hv5 with ⟨z1, z2, z3⟩ | ⟨z1, z2, z3⟩; (subst z1; first | exact ⟨rfl, rfl⟩ | (exfalso; (simp only [cc, cu, cy, l0] at *; first | done | omega))); (rw [fq_m_s z1]; first | (rw [if_pos (by rw [← z3]; (simp only [cc, cu, cy, l0] at *; first | done | omega))]; exact ⟨ec.symm, rfl⟩) | (rw [if_neg (by rw [← z3]; (simp only [cc, cu, cy, l0] at *; first | done | omega))]; exact ⟨z2, z3⟩) | (exfalso; (simp only [cc, cu, cy, l0] at *; first | done | omega)))) | (have x := hv5.resolve_left (by (simp only [cc, cy, cA, l0] at *; first | done | omega)); rw [x.2.1]; unfold fp_sb3; first | (rw [show c.toNat - 1 = (fp_pw (m : Int) 1).toNat - 1 by (simp only [cc, cA] at *; first | done | omega)]) | (have y0 : (fp_um (fv ν 1) st m 1) (fq_m (fp_um (fv ν 1) st m 1) (c.toNat - 1)) = 0 := (by rw [← x.2.2]; (simp only [cy, l0] at *; first | done | omega)); have z := fq_m_z (fun i => (ub i).1) y0 ((fp_pw (m : Int) 1).toNat - 1 - (c.toNat - 1)); rw [show c.toNat - 1 + ((fp_pw (m : Int) 1).toNat - 1 - (c.toNat - 1)) = (fp_pw (m : Int) 1).toNat - 1 by omega] at z; rw [z])) | (trace_state; fail))
  have lp111' : ∀ (t y c : Int) (o7 : Option am_V) (μ : am_N) , (∀ a b, ¬(30 ≤ a ∧ a ≤ 32) → ¬(a = 29 ∧ b = 0) → μ a b = ν a b) → μ 29 0 = 1 → 0 ≤ c → c ≤ (fp_pw (m : Int) 1) → c = 0 ∨ fp_RW μ (fv ν 1) st m 1 (c.toNat - 1) → (c = 0 ∧ t = 0 ∧ y = 1) ∨ (1 ≤ c ∧ t = ((fq_m (fp_um (fv ν 1) st m 1) (c.toNat - 1) : Nat) : Int) ∧ y = (fp_um (fv ν 1) st m 1) (fq_m (fp_um (fv ν 1) st m 1) (c.toNat - 1))) → am_AW l 0 (fun _ => 0) 123 Q 111 [some (.inr (.inr 0)), some (.inl st), some (.inl (m : Int)), some (.inl (fp_pw (m : Int) 1)), some (.inl t), some (.inl y), some (.inl c), o7] [] μ := fun t y c o7 μ hv0 hv1 hv2 hv3 hv4 hv5 => lp111 (((fp_pw (m : Int) 1) - c) + 1).toNat t y c o7 μ hv0 hv1 hv2 hv3 hv4 hv5 (by omega)
  refine am_go (ct := fun pc => Nat.beq pc 111) am_oX6_evenest 300 ?_
  conv => whnf
  repeat' first
    | (refine (?_ : am_wp _ _ _ _ _ _ _ _ _ _ _ _); conv => whnf)
    | (refine (?_ : am_sw _ _ _ _); conv => whnf)
    | refine And.intro trivial ?_
    | exact trivial
    | refine lp111' _ _ _ _ _ ?_ ?_ ?_ ?_ ?_ ?_
    | refine And.intro (fun h => absurd h (by decide)) (fun _ => ?_)
    | refine And.intro (fun _ => ?_) (fun h => absurd (by decide) h)
    | refine And.intro (fun _ => ?_) (fun _ => ?_)
    | refine And.intro ?_ ?_
  all_goals (first | decide | assumption | omega | ((simp only [cn] at *; first | done | omega)) | (exfalso; (simp only [cn] at *; first | done | omega)) | (intro a b q1 q2; exact am_uE q2) | (exact (if_pos ⟨rfl, rfl⟩ : am_up ν 29 0 (ν 1 4) 29 0 = ν 1 4).trans hn) | exact Or.inl rfl | exact Or.inl ⟨rfl, rfl, rfl⟩ | (trace_state; fail))
theorem s_evenest1 {l : Launch} {ν : am_N} {Q : Option am_V → am_N → Prop} (st : Int) (m : Nat) (hw : fp_fw 999 (fv ν 1)) (m2 : 2 ≤ m) (m20 : m ≤ 20) (s0 : 0 ≤ st) (st1 : st ≤ 50) (s1 : ((m : Int) - 1) * st ≤ 99) (hn : ν 1 4 = 1) (k : ∀ μ' : am_N, (∀ a b, ¬(30 ≤ a ∧ a ≤ 32) → ¬(a = 29 ∧ b = 0) → ¬(80 ≤ a ∧ a ≤ 82) → μ' a b = ν a b) → μ' 29 0 = 1 → Q (some (.inl ((fp_sb3 (fv ν 1) st m 1 : Nat) : Int))) μ') : am_Does l 123 [.inr (.inr 0), .inl st, .inl (m : Int)] ν Q := by
  refine am_Does_of (Nat.le_of_ble_eq_true rfl) (Nat.le_of_ble_eq_true rfl) (Nat.le_of_ble_eq_true rfl) ?_
  refine am_go (ct := fun pc => Nat.beq pc 5) am_oX6_evenest 300 ?_
  conv => whnf
  repeat' first
    | (refine (?_ : am_wp _ _ _ _ _ _ _ _ _ _ _ _); conv => whnf)
    | refine And.intro trivial ?_
  refine s_evr0 st m 1 _ hw m2 m20 s0 st1 s1 (by rw [hn]; decide) (fun o0 μ1 f0 t0 => ?_)
  have eF1 : fv μ1 1 = (fv ν 1) := (fv_keep (fun a b q1 q2 => f0 a b (by omega)))
  have e14_1 : μ1 1 4 = 1 := (f0 1 4 (by decide)).trans hn
  have hT : fp_TB μ1 (fv μ1 1) st m 1 := by
    rw [eF1]
    refine ⟨fun r h q1 q2 => ?_, fun r q => ?_⟩
    · obtain rfl : r = 0 := by omega
      exact t0 h q2
    · exact (f0 5 r (by omega)).trans (fv_a (μ := ν) (c := 1) (a := 4) (by decide) (by decide) (by omega)).symm
  refine s_evx1 st m _ (by rw [eF1]; exact hw) m2 m20 s0 s1 e14_1 hT (fun μ9 f9 n9 => ?_)
  rw [eF1]
  exact k μ9 (fun a b q1 q2 q3 => (f9 a b q1 q2).trans ((f0 a b (by omega)))) n9
theorem s_evx2 {l : Launch} {ν : am_N} {Q : Option am_V → am_N → Prop} (st : Int) (m : Nat) (o5 : Option am_V) (hw : fp_fw 999 (fv ν 1)) (m2 : 2 ≤ m) (m20 : m ≤ 20) (s0 : 0 ≤ st) (s1 : ((m : Int) - 1) * st ≤ 99) (hn : ν 1 4 = 2) (hT : fp_TB ν (fv ν 1) st m 2) (k : ∀ μ' : am_N, (∀ a b, ¬(30 ≤ a ∧ a ≤ 32) → ¬(a = 29 ∧ b = 0) → μ' a b = ν a b) → μ' 29 0 = 2 → Q (some (.inl ((fp_sb3 (fv ν 1) st m 2 : Nat) : Int))) μ') : am_AW l 0 (fun _ => 0) 123 Q 5 [some (.inr (.inr 0)), some (.inl st), some (.inl (m : Int)), some (.inl (fp_pw (m : Int) 2)), some (.inl 2), o5, none, none] [] ν := by
  have l0 : am_c 0 = 0 := rfl
  have l1 : am_c 1 = 1 := rfl
  have l2 : am_c 2 = 2 := rfl
  have l3 : am_c 3 = 3 := rfl
  have l5 : am_c 5 = 5 := rfl
  have l20 : am_c 20 = 20 := rfl
  have l50 : am_c 50 = 50 := rfl
  have l99 : am_c 99 = 99 := rfl
  have pb := fp_pw_b (m := (m : Int)) (by omega) (by omega) 2 (by decide)
  have cA : am_c (fp_pw (m : Int) 2) = (fp_pw (m : Int) 2) := am_cR (by omega) (by omega)
  have cn : am_c (ν 1 4) = 2 := by rw [hn]; rfl
  have e4 : fv ν 1 0 4 = ((2 : Nat) : Int) := (fv_0 (by decide)).trans hn
  have ub := fun c : Nat => fp_um_b (F := (fv ν 1)) (st := st) (m := m) (n := 2) (c := c) (by rw [e4]; decide) (by rw [e4]; decide)
  have kk := fun (x : Int) (μ' : am_N) (f : (∀ a b, ¬(30 ≤ a ∧ a ≤ 32) → ¬(a = 29 ∧ b = 0) → μ' a b = ν a b)) (e29 : μ' 29 0 = 2) (e : x = ((fp_sb3 (fv ν 1) st m 2 : Nat) : Int)) => am_qe (k μ' f e29) e
  have lp111 : ∀ (m : Nat) (t y c : Int) (o7 : Option am_V) (μ : am_N) , (∀ a b, ¬(30 ≤ a ∧ a ≤ 32) → ¬(a = 29 ∧ b = 0) → μ a b = ν a b) → μ 29 0 = 2 → 0 ≤ c → c ≤ (fp_pw (m : Int) 2) → c = 0 ∨ fp_RW μ (fv ν 1) st m 2 (c.toNat - 1) → (c = 0 ∧ t = 0 ∧ y = 1) ∨ (1 ≤ c ∧ t = ((fq_m (fp_um (fv ν 1) st m 2) (c.toNat - 1) : Nat) : Int) ∧ y = (fp_um (fv ν 1) st m 2) (fq_m (fp_um (fv ν 1) st m 2) (c.toNat - 1))) → (fp_pw (m : Int) 2) - c < (m : Int) → am_AW l 0 (fun _ => 0) 123 Q 111 [some (.inr (.inr 0)), some (.inl st), some (.inl (m : Int)), some (.inl (fp_pw (m : Int) 2)), some (.inl t), some (.inl y), some (.inl c), o7] [] μ := by
    intro m
    induction m with
    | zero =>
      intro t y c o7 μ hv0 hv1 hv2 hv3 hv4 hv5 hm
      exfalso
      omega
    | succ m ih =>
      intro t y c o7 μ hv0 hv1 hv2 hv3 hv4 hv5 hm
      have cc : am_c c = c := am_cR (by omega) (by omega)
      have ec : ((c.toNat : Nat) : Int) = c := Int.toNat_of_nonneg hv2
      have e14 : μ 1 4 = 2 := (hv0 1 4 (by decide) (by omega)).trans hn
      have hT2 : fp_TB μ (fv ν 1) st m 2 := ⟨fun r h q1 q2 => (hv0 (80 + r) h (by omega) (by omega)).trans (hT.1 r h q1 q2), fun r q => (hv0 5 r (by omega) (by omega)).trans (hT.2 r q)⟩
      have yb : 0 ≤ y ∧ y ≤ 256 := by rcases hv5 with z | z; (omega); (have x := ub (fq_m (fp_um (fv ν 1) st m 2) (c.toNat - 1)); omega)
      have cy : am_c y = y := am_cR (by omega) (by omega)
      have uc := ub c.toNat
      have cu : am_c ((fp_um (fv ν 1) st m 2) c.toNat) = (fp_um (fv ν 1) st m 2) c.toNat := am_cR (by omega) (by omega)
      refine am_go (ct := fun pc => Nat.beq pc 111) am_oX6_evenest 300 ?_
      conv => whnf
      repeat' first
        | (refine (?_ : am_wp _ _ _ _ _ _ _ _ _ _ _ _); conv => whnf)
        | (refine (?_ : am_sw _ _ _ _); conv => whnf)
        | refine And.intro trivial ?_
        | exact trivial
        | (rw [← ec]; refine s_putStarts2 (fv ν 1) st m c.toNat hw m2 m20 (by omega) s0 s1 e14 e4 hT2 (by rcases hv4 with z | z; (exact Or.inl (by omega)); (exact Or.inr z)) (fun μ2 f2 w2 => ?_); rw [ec]; have n2 : μ2 29 0 = 2 := (f2 29 0 (by decide)).trans hv1)
        | (refine x_uneven (fp_se (fv ν 1) st m 2 c.toNat) (by rw [n2]; decide) (by rw [n2]; decide) (by rw [n2, fp_se_0 (by decide)]; exact e4) (fun j hj => by rw [n2] at hj; have z := w2 j (by omega); have sb := fp_sv_b (st := st) (m := m) (c := c.toNat) (a := 2 - 1 - j) (by omega) s0 s1; have tb := fp_tt_b (F := (fv ν 1)) (q := j) (s := fp_sv st m c.toNat (2 - 1 - j)) hw (by rw [e4]; exact hj) sb.1 sb.2; have sp := (hw.2.2.2.2.2.2 j (by rw [e4]; exact hj)).2.2.2; have pb := fp_pt_b (t := fp_tt (fv ν 1) j (fp_sv st m c.toNat (2 - 1 - j))) (s := (fv ν 1) 4 j) (q := 0) tb.1 (by omega) sp.1 sp.2; rw [z.1, z.2.1, z.2.2]; omega) (fun r hr => by rw [n2] at hr ⊢; exact fp_RW_l w2 (by decide) (by omega) e4) ?_; have e6 : fp_un (fp_se (fv ν 1) st m 2 c.toNat) = (fp_um (fv ν 1) st m 2) c.toNat := rfl; rw [e6])
        | (refine kk _ _ hv0 hv1 ?_)
        | refine ih _ _ _ _ _ ?_ ?_ ?_ ?_ ?_ ?_ ?_
        | refine And.intro (fun h => absurd h (by decide)) (fun _ => ?_)
        | refine And.intro (fun _ => ?_) (fun h => absurd (by decide) h)
        | refine And.intro (fun _ => ?_) (fun _ => ?_)
        | refine And.intro ?_ ?_
      all_goals (first | decide | assumption | omega | (intro a b q1 q2; exact (f2 a b q1).trans (hv0 a b q1 q2)) | ((simp only [cc, cA] at *; first | done | omega)) | (refine Or.inr ?_; rw [show (c + 1).toNat - 1 = c.toNat by omega]; exact w2) | (refine Or.inr ⟨by omega, ?_⟩; rcases hv5 with ⟨z1, z2, z3⟩ | ⟨z1, z2, z3⟩; (subst z1; first | exact ⟨rfl, rfl⟩ | (exfalso; (simp only [cc, cu, cy, l0] at *; first | done | omega))); (rw [fq_m_s z1]; first | (rw [if_pos (by rw [← z3]; (simp only [cc, cu, cy, l0] at *; first | done | omega))]; exact ⟨ec.symm, rfl⟩) | (rw [if_neg (by rw [← z3]; (simp only [cc, cu, cy, l0] at *; first | done | omega))]; exact ⟨z2, z3⟩) | (exfalso; (simp only [cc, cu, cy, l0] at *; first | done | omega)))) | (have x := hv5.resolve_left (by (simp only [cc, cy, cA, l0] at *; first | done | omega)); rw [x.2.1]; unfold fp_sb3; first | (rw [show c.toNat - 1 = (fp_pw (m : Int) 2).toNat - 1 by (simp only [cc, cA] at *; first | done | omega)]) | (have y0 : (fp_um (fv ν 1) st m 2) (fq_m (fp_um (fv ν 1) st m 2) (c.toNat - 1)) = 0 := (by rw [← x.2.2]; (simp only [cy, l0] at *; first | done | omega)); have z := fq_m_z (fun i => (ub i).1) y0 ((fp_pw (m : Int) 2).toNat - 1 - (c.toNat - 1)); rw [show c.toNat - 1 + ((fp_pw (m : Int) 2).toNat - 1 - (c.toNat - 1)) = (fp_pw (m : Int) 2).toNat - 1 by omega] at z; rw [z])) | (trace_state; fail))
  have lp111' : ∀ (t y c : Int) (o7 : Option am_V) (μ : am_N) , (∀ a b, ¬(30 ≤ a ∧ a ≤ 32) → ¬(a = 29 ∧ b = 0) → μ a b = ν a b) → μ 29 0 = 2 → 0 ≤ c → c ≤ (fp_pw (m : Int) 2) → c = 0 ∨ fp_RW μ (fv ν 1) st m 2 (c.toNat - 1) → (c = 0 ∧ t = 0 ∧ y = 1) ∨ (1 ≤ c ∧ t = ((fq_m (fp_um (fv ν 1) st m 2) (c.toNat - 1) : Nat) : Int) ∧ y = (fp_um (fv ν 1) st m 2) (fq_m (fp_um (fv ν 1) st m 2) (c.toNat - 1))) → am_AW l 0 (fun _ => 0) 123 Q 111 [some (.inr (.inr 0)), some (.inl st), some (.inl (m : Int)), some (.inl (fp_pw (m : Int) 2)), some (.inl t), some (.inl y), some (.inl c), o7] [] μ := fun t y c o7 μ hv0 hv1 hv2 hv3 hv4 hv5 => lp111 (((fp_pw (m : Int) 2) - c) + 1).toNat t y c o7 μ hv0 hv1 hv2 hv3 hv4 hv5 (by omega)
  refine am_go (ct := fun pc => Nat.beq pc 111) am_oX6_evenest 300 ?_
  conv => whnf
  repeat' first
    | (refine (?_ : am_wp _ _ _ _ _ _ _ _ _ _ _ _); conv => whnf)
    | (refine (?_ : am_sw _ _ _ _); conv => whnf)
    | refine And.intro trivial ?_
    | exact trivial
    | refine lp111' _ _ _ _ _ ?_ ?_ ?_ ?_ ?_ ?_
    | refine And.intro (fun h => absurd h (by decide)) (fun _ => ?_)
    | refine And.intro (fun _ => ?_) (fun h => absurd (by decide) h)
    | refine And.intro (fun _ => ?_) (fun _ => ?_)
    | refine And.intro ?_ ?_
  all_goals (first | decide | assumption | omega | ((simp only [cn] at *; first | done | omega)) | (exfalso; (simp only [cn] at *; first | done | omega)) | (intro a b q1 q2; exact am_uE q2) | (exact (if_pos ⟨rfl, rfl⟩ : am_up ν 29 0 (ν 1 4) 29 0 = ν 1 4).trans hn) | exact Or.inl rfl | exact Or.inl ⟨rfl, rfl, rfl⟩ | (trace_state; fail))
theorem s_evenest2 {l : Launch} {ν : am_N} {Q : Option am_V → am_N → Prop} (st : Int) (m : Nat) (hw : fp_fw 999 (fv ν 1)) (m2 : 2 ≤ m) (m20 : m ≤ 20) (s0 : 0 ≤ st) (st1 : st ≤ 50) (s1 : ((m : Int) - 1) * st ≤ 99) (hn : ν 1 4 = 2) (k : ∀ μ' : am_N, (∀ a b, ¬(30 ≤ a ∧ a ≤ 32) → ¬(a = 29 ∧ b = 0) → ¬(80 ≤ a ∧ a ≤ 82) → μ' a b = ν a b) → μ' 29 0 = 2 → Q (some (.inl ((fp_sb3 (fv ν 1) st m 2 : Nat) : Int))) μ') : am_Does l 123 [.inr (.inr 0), .inl st, .inl (m : Int)] ν Q := by
  refine am_Does_of (Nat.le_of_ble_eq_true rfl) (Nat.le_of_ble_eq_true rfl) (Nat.le_of_ble_eq_true rfl) ?_
  refine am_go (ct := fun pc => Nat.beq pc 5) am_oX6_evenest 300 ?_
  conv => whnf
  repeat' first
    | (refine (?_ : am_wp _ _ _ _ _ _ _ _ _ _ _ _); conv => whnf)
    | refine And.intro trivial ?_
  refine s_evr0 st m 1 _ hw m2 m20 s0 st1 s1 (by rw [hn]; decide) (fun o0 μ1 f0 t0 => ?_)
  have eF1 : fv μ1 1 = (fv ν 1) := (fv_keep (fun a b q1 q2 => f0 a b (by omega)))
  have e14_1 : μ1 1 4 = 2 := (f0 1 4 (by decide)).trans hn
  refine s_evr1 st m (1 * (m : Int)) _ (by rw [eF1]; exact hw) m2 m20 s0 st1 s1 (by rw [e14_1]; decide) (fun o1 μ2 f1 t1 => ?_)
  have eF2 : fv μ2 1 = (fv ν 1) := (fv_keep (fun a b q1 q2 => f1 a b (by omega))).trans eF1
  rw [eF1] at t1
  have e14_2 : μ2 1 4 = 2 := (f1 1 4 (by decide)).trans e14_1
  have hT : fp_TB μ2 (fv μ2 1) st m 2 := by
    rw [eF2]
    refine ⟨fun r h q1 q2 => ?_, fun r q => ?_⟩
    · rcases (show r = 0 ∨ r = 1 by omega) with rfl | rfl
      · exact (f1 80 h (by decide)).trans (t0 h q2)
      · exact t1 h q2
    · exact ((f1 5 r (by omega)).trans ((f0 5 r (by omega)))).trans (fv_a (μ := ν) (c := 1) (a := 4) (by decide) (by decide) (by omega)).symm
  refine s_evx2 st m _ (by rw [eF2]; exact hw) m2 m20 s0 s1 e14_2 hT (fun μ9 f9 n9 => ?_)
  rw [eF2]
  exact k μ9 (fun a b q1 q2 q3 => (f9 a b q1 q2).trans ((f1 a b (by omega)).trans ((f0 a b (by omega))))) n9
theorem s_evx3 {l : Launch} {ν : am_N} {Q : Option am_V → am_N → Prop} (st : Int) (m : Nat) (o5 : Option am_V) (hw : fp_fw 999 (fv ν 1)) (m2 : 2 ≤ m) (m20 : m ≤ 20) (s0 : 0 ≤ st) (s1 : ((m : Int) - 1) * st ≤ 99) (hn : ν 1 4 = 3) (hT : fp_TB ν (fv ν 1) st m 3) (k : ∀ μ' : am_N, (∀ a b, ¬(30 ≤ a ∧ a ≤ 32) → ¬(a = 29 ∧ b = 0) → μ' a b = ν a b) → μ' 29 0 = 3 → Q (some (.inl ((fp_sb3 (fv ν 1) st m 3 : Nat) : Int))) μ') : am_AW l 0 (fun _ => 0) 123 Q 5 [some (.inr (.inr 0)), some (.inl st), some (.inl (m : Int)), some (.inl (fp_pw (m : Int) 3)), some (.inl 3), o5, none, none] [] ν := by
  have l0 : am_c 0 = 0 := rfl
  have l1 : am_c 1 = 1 := rfl
  have l2 : am_c 2 = 2 := rfl
  have l3 : am_c 3 = 3 := rfl
  have l5 : am_c 5 = 5 := rfl
  have l20 : am_c 20 = 20 := rfl
  have l50 : am_c 50 = 50 := rfl
  have l99 : am_c 99 = 99 := rfl
  have pb := fp_pw_b (m := (m : Int)) (by omega) (by omega) 3 (by decide)
  have cA : am_c (fp_pw (m : Int) 3) = (fp_pw (m : Int) 3) := am_cR (by omega) (by omega)
  have cn : am_c (ν 1 4) = 3 := by rw [hn]; rfl
  have e4 : fv ν 1 0 4 = ((3 : Nat) : Int) := (fv_0 (by decide)).trans hn
  have ub := fun c : Nat => fp_um_b (F := (fv ν 1)) (st := st) (m := m) (n := 3) (c := c) (by rw [e4]; decide) (by rw [e4]; decide)
  have kk := fun (x : Int) (μ' : am_N) (f : (∀ a b, ¬(30 ≤ a ∧ a ≤ 32) → ¬(a = 29 ∧ b = 0) → μ' a b = ν a b)) (e29 : μ' 29 0 = 3) (e : x = ((fp_sb3 (fv ν 1) st m 3 : Nat) : Int)) => am_qe (k μ' f e29) e
  have lp111 : ∀ (m : Nat) (t y c : Int) (o7 : Option am_V) (μ : am_N) , (∀ a b, ¬(30 ≤ a ∧ a ≤ 32) → ¬(a = 29 ∧ b = 0) → μ a b = ν a b) → μ 29 0 = 3 → 0 ≤ c → c ≤ (fp_pw (m : Int) 3) → c = 0 ∨ fp_RW μ (fv ν 1) st m 3 (c.toNat - 1) → (c = 0 ∧ t = 0 ∧ y = 1) ∨ (1 ≤ c ∧ t = ((fq_m (fp_um (fv ν 1) st m 3) (c.toNat - 1) : Nat) : Int) ∧ y = (fp_um (fv ν 1) st m 3) (fq_m (fp_um (fv ν 1) st m 3) (c.toNat - 1))) → (fp_pw (m : Int) 3) - c < (m : Int) → am_AW l 0 (fun _ => 0) 123 Q 111 [some (.inr (.inr 0)), some (.inl st), some (.inl (m : Int)), some (.inl (fp_pw (m : Int) 3)), some (.inl t), some (.inl y), some (.inl c), o7] [] μ := by
    intro m
    induction m with
    | zero =>
      intro t y c o7 μ hv0 hv1 hv2 hv3 hv4 hv5 hm
      exfalso
      omega
    | succ m ih =>
      intro t y c o7 μ hv0 hv1 hv2 hv3 hv4 hv5 hm
      have cc : am_c c = c := am_cR (by omega) (by omega)
      have ec : ((c.toNat : Nat) : Int) = c := Int.toNat_of_nonneg hv2
      have e14 : μ 1 4 = 3 := (hv0 1 4 (by decide) (by omega)).trans hn
      have hT2 : fp_TB μ (fv ν 1) st m 3 := ⟨fun r h q1 q2 => (hv0 (80 + r) h (by omega) (by omega)).trans (hT.1 r h q1 q2), fun r q => (hv0 5 r (by omega) (by omega)).trans (hT.2 r q)⟩
      have yb : 0 ≤ y ∧ y ≤ 256 := by rcases hv5 with z | z; (omega); (have x := ub (fq_m (fp_um (fv ν 1) st m 3) (c.toNat - 1)); omega)
      have cy : am_c y = y := am_cR (by omega) (by omega)
      have uc := ub c.toNat
      have cu : am_c ((fp_um (fv ν 1) st m 3) c.toNat) = (fp_um (fv ν 1) st m 3) c.toNat := am_cR (by omega) (by omega)
      refine am_go (ct := fun pc => Nat.beq pc 111) am_oX6_evenest 300 ?_
      conv => whnf
      repeat' first
        | (refine (?_ : am_wp _ _ _ _ _ _ _ _ _ _ _ _); conv => whnf)
        | (refine (?_ : am_sw _ _ _ _); conv => whnf)
        | refine And.intro trivial ?_
        | exact trivial
        | (rw [← ec]; refine s_putStarts3 (fv ν 1) st m c.toNat hw m2 m20 (by omega) s0 s1 e14 e4 hT2 (by rcases hv4 with z | z; (exact Or.inl (by omega)); (exact Or.inr z)) (fun μ2 f2 w2 => ?_); rw [ec]; have n2 : μ2 29 0 = 3 := (f2 29 0 (by decide)).trans hv1)
        | (refine x_uneven (fp_se (fv ν 1) st m 3 c.toNat) (by rw [n2]; decide) (by rw [n2]; decide) (by rw [n2, fp_se_0 (by decide)]; exact e4) (fun j hj => by rw [n2] at hj; have z := w2 j (by omega); have sb := fp_sv_b (st := st) (m := m) (c := c.toNat) (a := 3 - 1 - j) (by omega) s0 s1; have tb := fp_tt_b (F := (fv ν 1)) (q := j) (s := fp_sv st m c.toNat (3 - 1 - j)) hw (by rw [e4]; exact hj) sb.1 sb.2; have sp := (hw.2.2.2.2.2.2 j (by rw [e4]; exact hj)).2.2.2; have pb := fp_pt_b (t := fp_tt (fv ν 1) j (fp_sv st m c.toNat (3 - 1 - j))) (s := (fv ν 1) 4 j) (q := 0) tb.1 (by omega) sp.1 sp.2; rw [z.1, z.2.1, z.2.2]; omega) (fun r hr => by rw [n2] at hr ⊢; exact fp_RW_l w2 (by decide) (by omega) e4) ?_; have e6 : fp_un (fp_se (fv ν 1) st m 3 c.toNat) = (fp_um (fv ν 1) st m 3) c.toNat := rfl; rw [e6])
        | (refine kk _ _ hv0 hv1 ?_)
        | refine ih _ _ _ _ _ ?_ ?_ ?_ ?_ ?_ ?_ ?_
        | refine And.intro (fun h => absurd h (by decide)) (fun _ => ?_)
        | refine And.intro (fun _ => ?_) (fun h => absurd (by decide) h)
        | refine And.intro (fun _ => ?_) (fun _ => ?_)
        | refine And.intro ?_ ?_
      all_goals (first | decide | assumption | omega | (intro a b q1 q2; exact (f2 a b q1).trans (hv0 a b q1 q2)) | ((simp only [cc, cA] at *; first | done | omega)) | (refine Or.inr ?_; rw [show (c + 1).toNat - 1 = c.toNat by omega]; exact w2) | (refine Or.inr ⟨by omega, ?_⟩; rcases hv5 with ⟨z1, z2, z3⟩ | ⟨z1, z2, z3⟩; (subst z1; first | exact ⟨rfl, rfl⟩ | (exfalso; (simp only [cc, cu, cy, l0] at *; first | done | omega))); (rw [fq_m_s z1]; first | (rw [if_pos (by rw [← z3]; (simp only [cc, cu, cy, l0] at *; first | done | omega))]; exact ⟨ec.symm, rfl⟩) | (rw [if_neg (by rw [← z3]; (simp only [cc, cu, cy, l0] at *; first | done | omega))]; exact ⟨z2, z3⟩) | (exfalso; (simp only [cc, cu, cy, l0] at *; first | done | omega)))) | (have x := hv5.resolve_left (by (simp only [cc, cy, cA, l0] at *; first | done | omega)); rw [x.2.1]; unfold fp_sb3; first | (rw [show c.toNat - 1 = (fp_pw (m : Int) 3).toNat - 1 by (simp only [cc, cA] at *; first | done | omega)]) | (have y0 : (fp_um (fv ν 1) st m 3) (fq_m (fp_um (fv ν 1) st m 3) (c.toNat - 1)) = 0 := (by rw [← x.2.2]; (simp only [cy, l0] at *; first | done | omega)); have z := fq_m_z (fun i => (ub i).1) y0 ((fp_pw (m : Int) 3).toNat - 1 - (c.toNat - 1)); rw [show c.toNat - 1 + ((fp_pw (m : Int) 3).toNat - 1 - (c.toNat - 1)) = (fp_pw (m : Int) 3).toNat - 1 by omega] at z; rw [z])) | (trace_state; fail))
  have lp111' : ∀ (t y c : Int) (o7 : Option am_V) (μ : am_N) , (∀ a b, ¬(30 ≤ a ∧ a ≤ 32) → ¬(a = 29 ∧ b = 0) → μ a b = ν a b) → μ 29 0 = 3 → 0 ≤ c → c ≤ (fp_pw (m : Int) 3) → c = 0 ∨ fp_RW μ (fv ν 1) st m 3 (c.toNat - 1) → (c = 0 ∧ t = 0 ∧ y = 1) ∨ (1 ≤ c ∧ t = ((fq_m (fp_um (fv ν 1) st m 3) (c.toNat - 1) : Nat) : Int) ∧ y = (fp_um (fv ν 1) st m 3) (fq_m (fp_um (fv ν 1) st m 3) (c.toNat - 1))) → am_AW l 0 (fun _ => 0) 123 Q 111 [some (.inr (.inr 0)), some (.inl st), some (.inl (m : Int)), some (.inl (fp_pw (m : Int) 3)), some (.inl t), some (.inl y), some (.inl c), o7] [] μ := fun t y c o7 μ hv0 hv1 hv2 hv3 hv4 hv5 => lp111 (((fp_pw (m : Int) 3) - c) + 1).toNat t y c o7 μ hv0 hv1 hv2 hv3 hv4 hv5 (by omega)
  refine am_go (ct := fun pc => Nat.beq pc 111) am_oX6_evenest 300 ?_
  conv => whnf
  repeat' first
    | (refine (?_ : am_wp _ _ _ _ _ _ _ _ _ _ _ _); conv => whnf)
    | (refine (?_ : am_sw _ _ _ _); conv => whnf)
    | refine And.intro trivial ?_
    | exact trivial
    | refine lp111' _ _ _ _ _ ?_ ?_ ?_ ?_ ?_ ?_
    | refine And.intro (fun h => absurd h (by decide)) (fun _ => ?_)
    | refine And.intro (fun _ => ?_) (fun h => absurd (by decide) h)
    | refine And.intro (fun _ => ?_) (fun _ => ?_)
    | refine And.intro ?_ ?_
  all_goals (first | decide | assumption | omega | ((simp only [cn] at *; first | done | omega)) | (exfalso; (simp only [cn] at *; first | done | omega)) | (intro a b q1 q2; exact am_uE q2) | (exact (if_pos ⟨rfl, rfl⟩ : am_up ν 29 0 (ν 1 4) 29 0 = ν 1 4).trans hn) | exact Or.inl rfl | exact Or.inl ⟨rfl, rfl, rfl⟩ | (trace_state; fail))
theorem s_evenest3 {l : Launch} {ν : am_N} {Q : Option am_V → am_N → Prop} (st : Int) (m : Nat) (hw : fp_fw 999 (fv ν 1)) (m2 : 2 ≤ m) (m20 : m ≤ 20) (s0 : 0 ≤ st) (st1 : st ≤ 50) (s1 : ((m : Int) - 1) * st ≤ 99) (hn : ν 1 4 = 3) (k : ∀ μ' : am_N, (∀ a b, ¬(30 ≤ a ∧ a ≤ 32) → ¬(a = 29 ∧ b = 0) → ¬(80 ≤ a ∧ a ≤ 82) → μ' a b = ν a b) → μ' 29 0 = 3 → Q (some (.inl ((fp_sb3 (fv ν 1) st m 3 : Nat) : Int))) μ') : am_Does l 123 [.inr (.inr 0), .inl st, .inl (m : Int)] ν Q := by
  refine am_Does_of (Nat.le_of_ble_eq_true rfl) (Nat.le_of_ble_eq_true rfl) (Nat.le_of_ble_eq_true rfl) ?_
  refine am_go (ct := fun pc => Nat.beq pc 5) am_oX6_evenest 300 ?_
  conv => whnf
  repeat' first
    | (refine (?_ : am_wp _ _ _ _ _ _ _ _ _ _ _ _); conv => whnf)
    | refine And.intro trivial ?_
  refine s_evr0 st m 1 _ hw m2 m20 s0 st1 s1 (by rw [hn]; decide) (fun o0 μ1 f0 t0 => ?_)
  have eF1 : fv μ1 1 = (fv ν 1) := (fv_keep (fun a b q1 q2 => f0 a b (by omega)))
  have e14_1 : μ1 1 4 = 3 := (f0 1 4 (by decide)).trans hn
  refine s_evr1 st m (1 * (m : Int)) _ (by rw [eF1]; exact hw) m2 m20 s0 st1 s1 (by rw [e14_1]; decide) (fun o1 μ2 f1 t1 => ?_)
  have eF2 : fv μ2 1 = (fv ν 1) := (fv_keep (fun a b q1 q2 => f1 a b (by omega))).trans eF1
  rw [eF1] at t1
  have e14_2 : μ2 1 4 = 3 := (f1 1 4 (by decide)).trans e14_1
  refine s_evr2 st m ((1 * (m : Int)) * (m : Int)) _ (by rw [eF2]; exact hw) m2 m20 s0 st1 s1 (by rw [e14_2]; decide) (fun o2 μ3 f2 t2 => ?_)
  have eF3 : fv μ3 1 = (fv ν 1) := (fv_keep (fun a b q1 q2 => f2 a b (by omega))).trans eF2
  rw [eF2] at t2
  have e14_3 : μ3 1 4 = 3 := (f2 1 4 (by decide)).trans e14_2
  have hT : fp_TB μ3 (fv μ3 1) st m 3 := by
    rw [eF3]
    refine ⟨fun r h q1 q2 => ?_, fun r q => ?_⟩
    · rcases (show r = 0 ∨ r = 1 ∨ r = 2 by omega) with rfl | rfl | rfl
      · exact (f2 80 h (by decide).trans (f1 80 h (by decide))).trans (t0 h q2)
      · exact (f2 81 h (by decide)).trans (t1 h q2)
      · exact t2 h q2
    · exact ((f2 5 r (by omega)).trans ((f1 5 r (by omega)).trans ((f0 5 r (by omega))))).trans (fv_a (μ := ν) (c := 1) (a := 4) (by decide) (by decide) (by omega)).symm
  refine s_evx3 st m _ (by rw [eF3]; exact hw) m2 m20 s0 s1 e14_3 hT (fun μ9 f9 n9 => ?_)
  rw [eF3]
  exact k μ9 (fun a b q1 q2 q3 => (f9 a b q1 q2).trans ((f2 a b (by omega)).trans ((f1 a b (by omega)).trans ((f0 a b (by omega)))))) n9
theorem s_starts {l : Launch} {ν : am_N} {Q : Option am_V → am_N → Prop} (st i : Int) (cs : am_c st = st) (ci : am_c i = i) (hS : sx ν ν) (hw : fp_fw 999 (fv ν 1)) (k : ∀ μ' : am_N, sx ν μ' → Q (some (.inl (fp_str (fv ν 1) st i))) μ') : am_Does l 74 [.inr (.inr 0), .inl st, .inl i] ν Q := by
  refine am_Does_of (Nat.le_of_ble_eq_true rfl) (Nat.le_of_ble_eq_true rfl) (Nat.le_of_ble_eq_true rfl) ?_
  have l0 : am_c 0 = 0 := rfl
  have l1 : am_c 1 = 1 := rfl
  have l2 : am_c 2 = 2 := rfl
  have l3 : am_c 3 = 3 := rfl
  have l5 : am_c 5 = 5 := rfl
  have l20 : am_c 20 = 20 := rfl
  have l50 : am_c 50 = 50 := rfl
  have l99 : am_c 99 = 99 := rfl
  have m1' : am_c (-1) = -1 := rfl
  have m2' : am_c (-2) = -2 := rfl
  have m3' : am_c (-3) = -3 := rfl
  have m4' : am_c (-4) = -4 := rfl
  have m6' : am_c (-6) = -6 := rfl
  have m9' : am_c (-9) = -9 := rfl
  obtain ⟨hf, -, -, -, -, -, hx⟩ := fw_C hw (by decide)
  have f0 := hf.1.1
  have f1 := hf.1.2
  have e4 : fv ν 1 0 4 = ν 1 4 := fv_0 (by decide)
  have cn : am_c (ν 1 4) = ν 1 4 := am_cR (by omega) (by omega)
  have kk := fun (x : Int) (μ' : am_N) (h : sx ν μ') (e : x = fp_str (fv ν 1) st i) => am_qe (k μ' h) e
  clear k
  have lp97 : ∀ (m : Nat) (y r : Int) (μ : am_N) , sx ν μ → y = ((fp_dq (99 / st + 1).toNat (fp_sb3 (fv ν 1) st (99 / st + 1).toNat (ν 1 4).toNat) ((ν 1 4).toNat - 1 - r.toNat) : Nat) : Int) → i ≤ r → r < ν 1 4 → (5 ≤ st ∧ st ≤ 50) → 0 ≤ i → (1 ≤ ν 1 4 ∧ ν 1 4 ≤ 3) → r - i < (m : Int) → am_AW l 0 (fun _ => 0) 74 Q 97 [some (.inr (.inr 0)), some (.inl st), some (.inl i), some (.inl (((99 / st + 1).toNat : Nat) : Int)), some (.inl y), some (.inl r)] [] μ := by
    intro m
    induction m with
    | zero =>
      intro y r μ hv0 hv1 hv2 hv3 hv4 hv5 hv6 hm
      exfalso
      omega
    | succ m ih =>
      intro y r μ hv0 hv1 hv2 hv3 hv4 hv5 hv6 hm
      have cr : am_c r = r := am_cR (by omega) (by omega)
      obtain ⟨m1, m2, m3⟩ := fp_stm hv4.1 hv4.2
      have pb := fp_pw_b (m := (((99 / st + 1).toNat : Nat) : Int)) (by omega) (by omega) (ν 1 4).toNat (by omega)
      have bl := fq_m_l (fp_um (fv ν 1) st (99 / st + 1).toNat (ν 1 4).toNat) ((fp_pw (((99 / st + 1).toNat : Nat) : Int) (ν 1 4).toNat).toNat - 1)
      have bl2 : fp_sb3 (fv ν 1) st (99 / st + 1).toNat (ν 1 4).toNat ≤ 8000 := by unfold fp_sb3; omega
      have dl := fp_dq_l (99 / st + 1).toNat (fp_sb3 (fv ν 1) st (99 / st + 1).toNat (ν 1 4).toNat) ((ν 1 4).toNat - 1 - r.toNat)
      have cy : am_c y = y := am_cR (by omega) (by omega)
      have cm : am_c (((99 / st + 1).toNat : Nat) : Int) = (((99 / st + 1).toNat : Nat) : Int) := am_cR (by omega) (by omega)
      have rem : (am_c y).tmod (am_c (((99 / st + 1).toNat : Nat) : Int)) = ((fp_dq (99 / st + 1).toNat (fp_sb3 (fv ν 1) st (99 / st + 1).toNat (ν 1 4).toNat) ((ν 1 4).toNat - 1 - r.toNat) % (99 / st + 1).toNat : Nat) : Int) := by rw [cy, cm, hv1]; exact fp_rmN _ _
      have quo : (am_c y).tdiv (am_c (((99 / st + 1).toNat : Nat) : Int)) = ((fp_dq (99 / st + 1).toNat (fp_sb3 (fv ν 1) st (99 / st + 1).toNat (ν 1 4).toNat) ((ν 1 4).toNat - 1 - r.toNat + 1) : Nat) : Int) := by rw [cy, cm, hv1]; exact fp_qmN _ _
      refine am_go (ct := fun pc => Nat.beq pc 97) am_oX6_starts 300 ?_
      conv => whnf
      repeat' first
        | (refine (?_ : am_wp _ _ _ _ _ _ _ _ _ _ _ _); conv => whnf)
        | (refine (?_ : am_sw _ _ _ _); conv => whnf)
        | refine And.intro trivial ?_
        | exact trivial
        | (refine (?_ : sx _ _); (first | decide | assumption | omega | (rw [cm]; omega) | ((simp only [cr, ci] at *; first | done | omega)) | (rw [quo, show (ν 1 4).toNat - 1 - r.toNat + 1 = (ν 1 4).toNat - 1 - (r + -1).toNat by omega]) | (rw [quo, show (ν 1 4).toNat - 1 - r.toNat + 1 = (ν 1 4).toNat - 1 - (r - 1).toNat by omega]) | (unfold fp_str; rw [e4, if_neg (by omega), if_neg (by omega), if_neg (by omega), if_neg (by omega), rE]; rfl) | (trace_state; fail)))
        | (have rE : r = i := (by (simp only [cr, ci] at *; first | done | omega)); rw [rem]; refine kk _ _ hv0 ?_)
        | refine x_refuse _ ?_ (fun μr fr => ?_)
        | (have h5 : 5 ≤ st ∧ st ≤ 50 := (by (simp only [cs, l5, l50] at *; first | done | omega)); have hi0 : 0 ≤ i := (by (simp only [ci, l0] at *; first | done | omega)); have hN : 1 ≤ ν 1 4 ∧ ν 1 4 ≤ 3 := (by (simp only [cn, l0, l3] at *; first | done | omega)); obtain ⟨m1, m2, m3⟩ := fp_stm h5.1 h5.2; have em : (am_c 99).tdiv (am_c st) + 1 = (((99 / st + 1).toNat : Nat) : Int) := (by rw [l99, cs, Int.tdiv_eq_ediv_of_nonneg (by decide)]; omega); have m3' : ((((99 / st + 1).toNat : Nat) : Int) - 1) * st ≤ 99 := (by rw [Int.toNat_of_nonneg (by omega)]; exact m3); rw [em]; have KK : ∀ μ' : am_N, (∀ a b, ¬(30 ≤ a ∧ a ≤ 32) → ¬(a = 29 ∧ b = 0) → ¬(80 ≤ a ∧ a ≤ 82) → μ' a b = ν a b) → (0 ≤ μ' 29 0 ∧ μ' 29 0 ≤ 4) → sx ν μ' := (fun μ' f h => sx_ev hS f h); rcases (show ν 1 4 = 1 ∨ ν 1 4 = 2 ∨ ν 1 4 = 3 by omega) with hn | hn | hn)
        | (refine s_evenest1 st (99 / st + 1).toNat hw (by omega) (by omega) (by omega) h5.2 m3' hn (fun μ2 f2 n2 => ?_); have sE : sx ν μ2 := KK μ2 f2 (by rw [n2]; decide); have e2 : μ2 1 4 = ν 1 4 := f2 1 4 (by decide) (by omega) (by decide); rw [show (1 : Nat) = (ν 1 4).toNat by omega, e2])
        | (refine s_evenest2 st (99 / st + 1).toNat hw (by omega) (by omega) (by omega) h5.2 m3' hn (fun μ2 f2 n2 => ?_); have sE : sx ν μ2 := KK μ2 f2 (by rw [n2]; decide); have e2 : μ2 1 4 = ν 1 4 := f2 1 4 (by decide) (by omega) (by decide); rw [show (2 : Nat) = (ν 1 4).toNat by omega, e2])
        | (refine s_evenest3 st (99 / st + 1).toNat hw (by omega) (by omega) (by omega) h5.2 m3' hn (fun μ2 f2 n2 => ?_); have sE : sx ν μ2 := KK μ2 f2 (by rw [n2]; decide); have e2 : μ2 1 4 = ν 1 4 := f2 1 4 (by decide) (by omega) (by decide); rw [show (3 : Nat) = (ν 1 4).toNat by omega, e2])
        | refine kk _ _ (sx_rf hS.2.1 hS.2.2.1 hS.2.2.2.1 hS.2.2.2.2) ?_
        | refine kk _ _ (sx_78 hS fr) ?_
        | refine ih _ _ _ ?_ ?_ ?_ ?_ ?_ ?_ ?_ ?_
        | refine And.intro (fun h => absurd h (by decide)) (fun _ => ?_)
        | refine And.intro (fun _ => ?_) (fun h => absurd (by decide) h)
        | refine And.intro (fun _ => ?_) (fun _ => ?_)
        | refine And.intro ?_ ?_
      all_goals (first | decide | assumption | omega | (rw [cm]; omega) | ((simp only [cr, ci] at *; first | done | omega)) | (rw [quo, show (ν 1 4).toNat - 1 - r.toNat + 1 = (ν 1 4).toNat - 1 - (r + -1).toNat by omega]) | (rw [quo, show (ν 1 4).toNat - 1 - r.toNat + 1 = (ν 1 4).toNat - 1 - (r - 1).toNat by omega]) | (unfold fp_str; rw [e4, if_neg (by omega), if_neg (by omega), if_neg (by omega), if_neg (by omega), rE]; rfl) | (trace_state; fail))
  have lp97' : ∀ (y r : Int) (μ : am_N) , sx ν μ → y = ((fp_dq (99 / st + 1).toNat (fp_sb3 (fv ν 1) st (99 / st + 1).toNat (ν 1 4).toNat) ((ν 1 4).toNat - 1 - r.toNat) : Nat) : Int) → i ≤ r → r < ν 1 4 → (5 ≤ st ∧ st ≤ 50) → 0 ≤ i → (1 ≤ ν 1 4 ∧ ν 1 4 ≤ 3) → am_AW l 0 (fun _ => 0) 74 Q 97 [some (.inr (.inr 0)), some (.inl st), some (.inl i), some (.inl (((99 / st + 1).toNat : Nat) : Int)), some (.inl y), some (.inl r)] [] μ := fun y r μ hv0 hv1 hv2 hv3 hv4 hv5 hv6 => lp97 ((r - i) + 1).toNat y r μ hv0 hv1 hv2 hv3 hv4 hv5 hv6 (by omega)
  refine am_go (ct := fun pc => Nat.beq pc 97) am_oX6_starts 300 ?_
  conv => whnf
  repeat' first
    | (refine (?_ : am_wp _ _ _ _ _ _ _ _ _ _ _ _); conv => whnf)
    | (refine (?_ : am_sw _ _ _ _); conv => whnf)
    | refine And.intro trivial ?_
    | exact trivial
    | (refine (?_ : sx _ _); (first | decide | assumption | omega | rfl | ((simp only [cn, ci] at *; first | done | omega)) | (rw [cs]; omega) | (rw [show (ν 1 4).toNat - 1 - (ν 1 4 - 1).toNat = 0 by omega]; rfl) | (unfold fp_str; rw [if_pos (by (simp only [cs, ci, l0, l5] at *; first | done | omega))]) | (unfold fp_str; rw [if_neg (by (simp only [cs, ci, l0, l5] at *; first | done | omega)), if_pos (by (simp only [cs, l50] at *; first | done | omega))]) | (unfold fp_str; rw [e4, if_neg (by (simp only [cs, ci, l0, l5] at *; first | done | omega)), if_neg (by (simp only [cs, l50] at *; first | done | omega)), if_pos (by (simp only [cn, l0, l3] at *; first | done | omega))]) | (unfold fp_str; rw [e4, if_neg (by (simp only [cs, ci, l0, l5] at *; first | done | omega)), if_neg (by (simp only [cs, l50] at *; first | done | omega)), if_neg (by (simp only [cn, l0, l3] at *; first | done | omega)), if_pos (by (simp only [cn, ci] at *; first | done | omega))]) | (trace_state; fail)))
    | refine x_refuse _ ?_ (fun μr fr => ?_)
    | (have h5 : 5 ≤ st ∧ st ≤ 50 := (by (simp only [cs, l5, l50] at *; first | done | omega)); have hi0 : 0 ≤ i := (by (simp only [ci, l0] at *; first | done | omega)); have hN : 1 ≤ ν 1 4 ∧ ν 1 4 ≤ 3 := (by (simp only [cn, l0, l3] at *; first | done | omega)); obtain ⟨m1, m2, m3⟩ := fp_stm h5.1 h5.2; have em : (am_c 99).tdiv (am_c st) + 1 = (((99 / st + 1).toNat : Nat) : Int) := (by rw [l99, cs, Int.tdiv_eq_ediv_of_nonneg (by decide)]; omega); have m3' : ((((99 / st + 1).toNat : Nat) : Int) - 1) * st ≤ 99 := (by rw [Int.toNat_of_nonneg (by omega)]; exact m3); rw [em]; have KK : ∀ μ' : am_N, (∀ a b, ¬(30 ≤ a ∧ a ≤ 32) → ¬(a = 29 ∧ b = 0) → ¬(80 ≤ a ∧ a ≤ 82) → μ' a b = ν a b) → (0 ≤ μ' 29 0 ∧ μ' 29 0 ≤ 4) → sx ν μ' := (fun μ' f h => sx_ev hS f h); rcases (show ν 1 4 = 1 ∨ ν 1 4 = 2 ∨ ν 1 4 = 3 by omega) with hn | hn | hn)
    | (refine s_evenest1 st (99 / st + 1).toNat hw (by omega) (by omega) (by omega) h5.2 m3' hn (fun μ2 f2 n2 => ?_); have sE : sx ν μ2 := KK μ2 f2 (by rw [n2]; decide); have e2 : μ2 1 4 = ν 1 4 := f2 1 4 (by decide) (by omega) (by decide); rw [show (1 : Nat) = (ν 1 4).toNat by omega, e2])
    | (refine s_evenest2 st (99 / st + 1).toNat hw (by omega) (by omega) (by omega) h5.2 m3' hn (fun μ2 f2 n2 => ?_); have sE : sx ν μ2 := KK μ2 f2 (by rw [n2]; decide); have e2 : μ2 1 4 = ν 1 4 := f2 1 4 (by decide) (by omega) (by decide); rw [show (2 : Nat) = (ν 1 4).toNat by omega, e2])
    | (refine s_evenest3 st (99 / st + 1).toNat hw (by omega) (by omega) (by omega) h5.2 m3' hn (fun μ2 f2 n2 => ?_); have sE : sx ν μ2 := KK μ2 f2 (by rw [n2]; decide); have e2 : μ2 1 4 = ν 1 4 := f2 1 4 (by decide) (by omega) (by decide); rw [show (3 : Nat) = (ν 1 4).toNat by omega, e2])
    | refine kk _ _ (sx_rf hS.2.1 hS.2.2.1 hS.2.2.2.1 hS.2.2.2.2) ?_
    | refine kk _ _ (sx_78 hS fr) ?_
    | refine lp97' _ _ _ ?_ ?_ ?_ ?_ ?_ ?_ ?_
    | refine And.intro (fun h => absurd h (by decide)) (fun _ => ?_)
    | refine And.intro (fun _ => ?_) (fun h => absurd (by decide) h)
    | refine And.intro (fun _ => ?_) (fun _ => ?_)
    | refine And.intro ?_ ?_
  all_goals (first | decide | assumption | omega | rfl | ((simp only [cn, ci] at *; first | done | omega)) | (rw [cs]; omega) | (rw [show (ν 1 4).toNat - 1 - (ν 1 4 - 1).toNat = 0 by omega]; rfl) | (unfold fp_str; rw [if_pos (by (simp only [cs, ci, l0, l5] at *; first | done | omega))]) | (unfold fp_str; rw [if_neg (by (simp only [cs, ci, l0, l5] at *; first | done | omega)), if_pos (by (simp only [cs, l50] at *; first | done | omega))]) | (unfold fp_str; rw [e4, if_neg (by (simp only [cs, ci, l0, l5] at *; first | done | omega)), if_neg (by (simp only [cs, l50] at *; first | done | omega)), if_pos (by (simp only [cn, l0, l3] at *; first | done | omega))]) | (unfold fp_str; rw [e4, if_neg (by (simp only [cs, ci, l0, l5] at *; first | done | omega)), if_neg (by (simp only [cs, l50] at *; first | done | omega)), if_neg (by (simp only [cn, l0, l3] at *; first | done | omega)), if_pos (by (simp only [cn, ci] at *; first | done | omega))]) | (trace_state; fail))
theorem mi_rc2 {ν μ : am_N} (h : mi ν) (e : ∀ a b, (a = 83 ∧ b ≠ 35 ∧ b ≠ 36) ∨ a = 98 → μ a b = ν a b) (p : sx_3 μ 100) : mi μ := by
  unfold mi at h ⊢
  rw [e 83 14 (by omega), e 83 15 (by omega), e 83 16 (by omega), e 83 21 (by omega), e 83 33 (by omega), e 83 40 (by omega), e 83 42 (by omega), e 98 44 (by omega), e 98 38 (by omega), e 98 39 (by omega)]
  exact ⟨h.1, h.2.1, h.2.2.1, h.2.2.2.1, h.2.2.2.2.1, h.2.2.2.2.2.1, h.2.2.2.2.2.2.1, h.2.2.2.2.2.2.2.1, h.2.2.2.2.2.2.2.2.1, h.2.2.2.2.2.2.2.2.2.1, p⟩
theorem gm_fs {ν μ : am_N} (h : mi ν) (f : ∀ a b, a ≠ 89 → a ≠ 99 → a ≠ 100 → a ≠ 104 → ¬(a = 83 ∧ (b = 35 ∨ b = 36)) → μ a b = ν a b) (p : sx_3 μ 100) : gm mM ν μ := by
  refine ⟨mi_rc2 h (fun a b q => f a b (by omega) (by omega) (by omega) (by omega) (by omega)) p, fun a b q => f a b (fun z => by rw [z] at q; cases q) (fun z => by rw [z] at q; cases q) (fun z => by rw [z] at q; cases q) (fun z => by rw [z] at q; cases q) (fun z => ?_)⟩
  obtain ⟨z1, z2⟩ := z
  rcases z2 with z2 | z2 <;> (rw [z1, z2] at q; cases q)
theorem gm_rfQ {ν : am_N} (h : mi ν) : gm mQ ν ν := gm_rf h
theorem n_findStarts {l : Launch} {ν : am_N} {Q : Option am_V → am_N → Prop} (st : Int) (m : Nat) (cs : am_c st = st) (hm : mi ν) (hw : fp_fw 999 (mv ν)) (hN : 1 ≤ ν 83 14 ∧ ν 83 14 ≤ 3) (h5 : 5 ≤ st ∧ st ≤ 50) (hM : m = (99 / st + 1).toNat) (k : ∀ μ' : am_N, (∀ a b, ¬(a = 89 ∧ b < (ν 83 14).toNat) → a ≠ 99 → a ≠ 100 → a ≠ 104 → ¬(a = 83 ∧ (b = 35 ∨ b = 36)) → μ' a b = ν a b) → sx_3 μ' 100 → μ' 83 35 = ((fp_sb3 (mv ν) st m (ν 83 14).toNat : Nat) : Int) → Q none μ') : am_Does l 196 [.inr (.inr 83), .inl st] ν Q := by
  refine am_Does_of (Nat.le_of_ble_eq_true rfl) (Nat.le_of_ble_eq_true rfl) (Nat.le_of_ble_eq_true rfl) ?_
  have l0 : am_c 0 = 0 := rfl
  have l1 : am_c 1 = 1 := rfl
  have l2 : am_c 2 = 2 := rfl
  have l3 : am_c 3 = 3 := rfl
  have l5 : am_c 5 = 5 := rfl
  have l20 : am_c 20 = 20 := rfl
  have l50 : am_c 50 = 50 := rfl
  have l99 : am_c 99 = 99 := rfl
  have hm0 := hm
  obtain ⟨m1, mm2, m3⟩ := fp_stm h5.1 h5.2
  have em : (am_c 99).tdiv (am_c st) + 1 = (m : Int) := by rw [l99, cs, Int.tdiv_eq_ediv_of_nonneg (by decide), hM]; omega
  have m2 : 2 ≤ m := by omega
  have m20 : m ≤ 20 := by omega
  have s1 : ((m : Int) - 1) * st ≤ 99 := by rw [hM, Int.toNat_of_nonneg (by omega)]; exact m3
  have cm : am_c (m : Int) = (m : Int) := am_cR (by omega) (by omega)
  have cn : am_c (ν 83 14) = ν 83 14 := am_cR (by omega) (by omega)
  have pb := fp_pw_b (m := (m : Int)) (by omega) (by omega) (ν 83 14).toNat (by omega)
  have cA : am_c (fp_pw (m : Int) (ν 83 14).toNat) = (fp_pw (m : Int) (ν 83 14).toNat) := am_cR (by omega) (by omega)
  have e4 : mv ν 0 4 = ν 83 14 := rfl
  have ub := fun c : Nat => fp_um_b (F := (mv ν)) (st := st) (m := m) (n := (ν 83 14).toNat) (c := c) hN.1 (by rw [e4]; omega)
  have lp64 : ∀ (m : Nat) (c y r : Int) (μ : am_N) , (∀ a b, ¬(a = 89 ∧ b < (ν 83 14).toNat) → a ≠ 99 → a ≠ 100 → a ≠ 104 → ¬(a = 83 ∧ (b = 35 ∨ b = 36)) → μ a b = ν a b) → sx_3 μ 100 → 0 ≤ c → c ≤ (fp_pw (m : Int) (ν 83 14).toNat) → (c = 0 ∧ μ 83 35 = 0 ∧ μ 83 36 = 999) ∨ (1 ≤ c ∧ μ 83 35 = ((fq_m (fp_um (mv ν) st m (ν 83 14).toNat) (c.toNat - 1) : Nat) : Int) ∧ μ 83 36 = (fp_um (mv ν) st m (ν 83 14).toNat) (fq_m (fp_um (mv ν) st m (ν 83 14).toNat) (c.toNat - 1))) → c < (fp_pw (m : Int) (ν 83 14).toNat) → -1 ≤ r → r < ν 83 14 → y = ((fp_dq m c.toNat ((ν 83 14).toNat - 1 - r.toNat) : Nat) : Int) ∨ r = -1 → (∀ q : Nat, r < (q : Int) → q < (ν 83 14).toNat → μ 89 q = fp_sv st m c.toNat ((ν 83 14).toNat - 1 - q)) → (∀ (o5 o6 : Option am_V) (μ : am_N), (∀ a b, ¬(a = 89 ∧ b < (ν 83 14).toNat) → a ≠ 99 → a ≠ 100 → a ≠ 104 → ¬(a = 83 ∧ (b = 35 ∨ b = 36)) → μ a b = ν a b) → sx_3 μ 100 → (μ 83 35 = ((fq_m (fp_um (mv ν) st m (ν 83 14).toNat) c.toNat : Nat) : Int) ∧ μ 83 36 = (fp_um (mv ν) st m (ν 83 14).toNat) (fq_m (fp_um (mv ν) st m (ν 83 14).toNat) c.toNat)) → am_AW l 0 (fun _ => 0) 196 Q 46 [some (.inr (.inr 83)), some (.inl st), some (.inl (m : Int)), some (.inl (fp_pw (m : Int) (ν 83 14).toNat)), some (.inl (c + 1)), o5, o6] [] μ) → r + 1 < (m : Int) → am_AW l 0 (fun _ => 0) 196 Q 64 [some (.inr (.inr 83)), some (.inl st), some (.inl (m : Int)), some (.inl (fp_pw (m : Int) (ν 83 14).toNat)), some (.inl c), some (.inl y), some (.inl r)] [] μ := by
    intro m
    induction m with
    | zero =>
      intro c y r μ hv0 hv1 hv2 hv3 hv4 hv5 hv6 hv7 hv8 hv9 hv10 hm
      exfalso
      omega
    | succ m ih =>
      intro c y r μ hv0 hv1 hv2 hv3 hv4 hv5 hv6 hv7 hv8 hv9 hv10 hm
      have cr : am_c r = r := am_cR (by omega) (by omega)
      have er : (am_c r).toNat = r.toNat := by rw [cr]
      have cc : am_c c = c := am_cR (by omega) (by omega)
      have ec : ((c.toNat : Nat) : Int) = c := Int.toNat_of_nonneg hv2
      have n8 : μ 83 14 = ν 83 14 := hv0 83 14 (by omega) (by decide) (by decide) (by decide) (by omega)
      have dl := fp_dq_l m c.toNat ((ν 83 14).toNat - 1 - r.toNat)
      have cy := fun z : 0 ≤ r => (show am_c y = y by have h := hv8.resolve_right (by omega); exact am_cR (by omega) (by omega))
      have rem := fun z : 0 ≤ r => (show (am_c y).tmod (am_c (m : Int)) = ((fp_dq m c.toNat ((ν 83 14).toNat - 1 - r.toNat) % m : Nat) : Int) by rw [cy z, cm, hv8.resolve_right (by omega)]; exact fp_rmN _ _)
      have quo := fun z : 0 ≤ r => (show (am_c y).tdiv (am_c (m : Int)) = ((fp_dq m c.toNat ((ν 83 14).toNat - 1 - r.toNat + 1) : Nat) : Int) by rw [cy z, cm, hv8.resolve_right (by omega)]; exact fp_qmN _ _)
      have hmi : mi μ := mi_rc2 hm0 (fun a b q => hv0 a b (by omega) (by omega) (by omega) (by omega) (by omega)) hv1
      have hE := fun z : r = -1 => (show mv μ = fp_se (mv ν) st m (ν 83 14).toNat c.toNat by
        refine fp_ct_e (fun b hb => ?_) (fun a b q1 q2 hb => ?_)
        · exact (hv0 83 (10 + b) (by omega) (by omega) (by omega) (by omega) (by omega)).trans ((mv_0 (μ := ν) hb).symm.trans (if_neg (fun x => absurd x.1 (by decide))).symm)
        · obtain ⟨a, rfl⟩ : ∃ e, a = e + 1 := ⟨a - 1, by omega⟩
          by_cases d : a + 1 = 5 ∧ b < (ν 83 14).toNat
          · rw [if_pos d]
            obtain ⟨d1, d2⟩ := d
            obtain rfl : a = 4 := by omega
            exact hv9 b (by omega) d2
          · rw [if_neg d, mv_a (by omega) hb]
            exact hv0 (85 + a) b (by omega) (by omega) (by omega) (by omega) (by omega))
      have uc := ub c.toNat
      have cu : am_c ((fp_um (mv ν) st m (ν 83 14).toNat) c.toNat) = (fp_um (mv ν) st m (ν 83 14).toNat) c.toNat := am_cR (by omega) (by omega)
      have lb : 0 ≤ μ 83 36 ∧ μ 83 36 ≤ 999 := by rcases hv4 with z | z; (omega); (have x := ub (fq_m (fp_um (mv ν) st m (ν 83 14).toNat) (c.toNat - 1)); omega)
      have cl : am_c (μ 83 36) = μ 83 36 := am_cR (by omega) (by omega)
      have sv := fun a : Nat => fp_sv_b (st := st) (m := m) (c := c.toNat) (a := a) (by omega) (by omega) s1
      refine am_go (ct := fun pc => Nat.beq pc 64 || Nat.beq pc 46 || Nat.beq pc 12) am_oX7_findStarts 300 ?_
      conv => whnf
      repeat' first
        | (refine (?_ : am_wp _ _ _ _ _ _ _ _ _ _ _ _); conv => whnf)
        | (refine (?_ : am_sw _ _ _ _); conv => whnf)
        | refine And.intro trivial ?_
        | exact trivial
        | (have rM : r = -1 := (by (simp only [cr, l0] at *; first | done | omega)); have pE := hE rM; refine n_uneven hmi (by rw [pE]; exact fw_se hw sv) (fun μ2 h2 g2 => ?_); rw [pE, show fp_un (fp_se (mv ν) st m (ν 83 14).toNat c.toNat) = (fp_um (mv ν) st m (ν 83 14).toNat) c.toNat from rfl]; have k36 : μ2 83 36 = μ 83 36 := g2 83 36 (by decide) (by decide) (by decide); have k35 : μ2 83 35 = μ 83 35 := g2 83 35 (by decide) (by decide) (by decide); have fr2 : (∀ a b, ¬(a = 89 ∧ b < (ν 83 14).toNat) → a ≠ 99 → a ≠ 100 → a ≠ 104 → ¬(a = 83 ∧ (b = 35 ∨ b = 36)) → μ2 a b = ν a b) := (fun a b q1 q2 q3 q4 q5 => (g2 a b q2 q3 q4).trans (hv0 a b q1 q2 q3 q4 q5)); have p2 : sx_3 μ2 100 := (fun p hp => mi_or h2.1 p hp))
        | (refine hv10 _ _ _ ?_ ?_ ?_)
        | (rw [em]; refine lp12' 1 0 ?_ ?_ ?_)
        | refine ih _ _ _ _ ?_ ?_ ?_ ?_ ?_ ?_ ?_ ?_ ?_ ?_ ?_ ?_
        | refine And.intro (fun h => absurd h (by decide)) (fun _ => ?_)
        | refine And.intro (fun _ => ?_) (fun h => absurd (by decide) h)
        | refine And.intro (fun _ => ?_) (fun _ => ?_)
        | refine And.intro ?_ ?_
      all_goals (first | decide | omega | exact p2 | (rw [cm]; omega) | (rw [cr]; omega) | (intro a b q1 q2 q3 q4 q5; rw [am_uE (by omega), am_uE (by omega)]; exact fr2 a b q1 q2 q3 q4 q5) | exact fr2 | exact sx_3N (sx_3N p2 (by decide)) (by decide) | (have q := fq_m_u (f := (fp_um (mv ν) st m (ν 83 14).toNat)) hv2 hv4 (by (simp only [k36, cu, cl] at *; first | done | omega)); exact ⟨((am_upM (by decide)).trans (if_pos ⟨rfl, rfl⟩)).trans q.1, Eq.trans (if_pos ⟨rfl, rfl⟩) q.2⟩) | (have q := fq_m_k (f := (fp_um (mv ν) st m (ν 83 14).toNat)) hv2 hv4 (ub 0).2 (by (simp only [k36, cu, cl] at *; first | done | omega)); exact ⟨k35.trans q.1, k36.trans q.2⟩) | (have r0 : 0 ≤ r := (by (simp only [cr, l0] at *; first | done | omega)); first | (intro a b q1 q2 q3 q4 q5; rw [am_uE (by rw [er]; omega)]; exact hv0 a b q1 q2 q3 q4 q5) | (rw [am_upN (by decide), am_upN (by decide)]; exact hv4) | exact sx_3N hv1 (by decide) | (refine Or.inl ?_; rw [quo r0]; first | rw [show (ν 83 14).toNat - 1 - r.toNat + 1 = (ν 83 14).toNat - 1 - (r + -1).toNat by omega] | rw [show (ν 83 14).toNat - 1 - r.toNat + 1 = (ν 83 14).toNat - 1 - (r - 1).toNat by omega]) | exact Or.inr (by omega) | (intro q q1 q2; by_cases d : q = r.toNat; (rw [am_upS, if_pos ⟨rfl, by rw [er]; exact d⟩, rem r0, d]; rfl); (rw [am_upM (by rw [er]; exact d)]; exact hv9 q (by omega) q2))) | (trace_state; fail))
  have lp64' : ∀ (c y r : Int) (μ : am_N) , (∀ a b, ¬(a = 89 ∧ b < (ν 83 14).toNat) → a ≠ 99 → a ≠ 100 → a ≠ 104 → ¬(a = 83 ∧ (b = 35 ∨ b = 36)) → μ a b = ν a b) → sx_3 μ 100 → 0 ≤ c → c ≤ (fp_pw (m : Int) (ν 83 14).toNat) → (c = 0 ∧ μ 83 35 = 0 ∧ μ 83 36 = 999) ∨ (1 ≤ c ∧ μ 83 35 = ((fq_m (fp_um (mv ν) st m (ν 83 14).toNat) (c.toNat - 1) : Nat) : Int) ∧ μ 83 36 = (fp_um (mv ν) st m (ν 83 14).toNat) (fq_m (fp_um (mv ν) st m (ν 83 14).toNat) (c.toNat - 1))) → c < (fp_pw (m : Int) (ν 83 14).toNat) → -1 ≤ r → r < ν 83 14 → y = ((fp_dq m c.toNat ((ν 83 14).toNat - 1 - r.toNat) : Nat) : Int) ∨ r = -1 → (∀ q : Nat, r < (q : Int) → q < (ν 83 14).toNat → μ 89 q = fp_sv st m c.toNat ((ν 83 14).toNat - 1 - q)) → (∀ (o5 o6 : Option am_V) (μ : am_N), (∀ a b, ¬(a = 89 ∧ b < (ν 83 14).toNat) → a ≠ 99 → a ≠ 100 → a ≠ 104 → ¬(a = 83 ∧ (b = 35 ∨ b = 36)) → μ a b = ν a b) → sx_3 μ 100 → (μ 83 35 = ((fq_m (fp_um (mv ν) st m (ν 83 14).toNat) c.toNat : Nat) : Int) ∧ μ 83 36 = (fp_um (mv ν) st m (ν 83 14).toNat) (fq_m (fp_um (mv ν) st m (ν 83 14).toNat) c.toNat)) → am_AW l 0 (fun _ => 0) 196 Q 46 [some (.inr (.inr 83)), some (.inl st), some (.inl (m : Int)), some (.inl (fp_pw (m : Int) (ν 83 14).toNat)), some (.inl (c + 1)), o5, o6] [] μ) → am_AW l 0 (fun _ => 0) 196 Q 64 [some (.inr (.inr 83)), some (.inl st), some (.inl (m : Int)), some (.inl (fp_pw (m : Int) (ν 83 14).toNat)), some (.inl c), some (.inl y), some (.inl r)] [] μ := fun c y r μ hv0 hv1 hv2 hv3 hv4 hv5 hv6 hv7 hv8 hv9 hv10 => lp64 ((r + 1) + 1).toNat c y r μ hv0 hv1 hv2 hv3 hv4 hv5 hv6 hv7 hv8 hv9 hv10 (by omega)
  have lp46 : ∀ (m : Nat) (c : Int) (o5 o6 : Option am_V) (μ : am_N) , (∀ a b, ¬(a = 89 ∧ b < (ν 83 14).toNat) → a ≠ 99 → a ≠ 100 → a ≠ 104 → ¬(a = 83 ∧ (b = 35 ∨ b = 36)) → μ a b = ν a b) → sx_3 μ 100 → 0 ≤ c → c ≤ (fp_pw (m : Int) (ν 83 14).toNat) → (c = 0 ∧ μ 83 35 = 0 ∧ μ 83 36 = 999) ∨ (1 ≤ c ∧ μ 83 35 = ((fq_m (fp_um (mv ν) st m (ν 83 14).toNat) (c.toNat - 1) : Nat) : Int) ∧ μ 83 36 = (fp_um (mv ν) st m (ν 83 14).toNat) (fq_m (fp_um (mv ν) st m (ν 83 14).toNat) (c.toNat - 1))) → (fp_pw (m : Int) (ν 83 14).toNat) - c < (m : Int) → am_AW l 0 (fun _ => 0) 196 Q 46 [some (.inr (.inr 83)), some (.inl st), some (.inl (m : Int)), some (.inl (fp_pw (m : Int) (ν 83 14).toNat)), some (.inl c), o5, o6] [] μ := by
    intro m
    induction m with
    | zero =>
      intro c o5 o6 μ hv0 hv1 hv2 hv3 hv4 hm
      exfalso
      omega
    | succ m ih =>
      intro c o5 o6 μ hv0 hv1 hv2 hv3 hv4 hm
      have cc : am_c c = c := am_cR (by omega) (by omega)
      have ec : ((c.toNat : Nat) : Int) = c := Int.toNat_of_nonneg hv2
      have n8 : μ 83 14 = ν 83 14 := hv0 83 14 (by omega) (by decide) (by decide) (by decide) (by omega)
      refine am_go (ct := fun pc => Nat.beq pc 64 || Nat.beq pc 46 || Nat.beq pc 12) am_oX7_findStarts 300 ?_
      conv => whnf
      repeat' first
        | (refine (?_ : am_wp _ _ _ _ _ _ _ _ _ _ _ _); conv => whnf)
        | (refine (?_ : am_sw _ _ _ _); conv => whnf)
        | refine And.intro trivial ?_
        | exact trivial
        | refine k _ hv0 hv1 ?_
        | (rw [em]; refine lp12' 1 0 ?_ ?_ ?_)
        | refine ih _ _ _ _ ?_ ?_ ?_ ?_ ?_ ?_
        | refine lp64' _ _ _ _ ?_ ?_ ?_ ?_ ?_ ?_ ?_ ?_ ?_ ?_ ?_
        | refine And.intro (fun h => absurd h (by decide)) (fun _ => ?_)
        | refine And.intro (fun _ => ?_) (fun h => absurd (by decide) h)
        | refine And.intro (fun _ => ?_) (fun _ => ?_)
        | refine And.intro ?_ ?_
      all_goals (first | decide | assumption | omega | ((simp only [cc, cA] at *; first | done | omega)) | (rw [n8]; omega) | (refine Or.inl ?_; rw [n8, show (ν 83 14).toNat - 1 - (ν 83 14 - 1).toNat = 0 by omega]; exact ec.symm) | (intro q q1 q2; rw [n8] at q1; exact absurd q1 (by omega)) | (intro o5' o6' μ' q0 q1 q2; refine ih _ _ _ _ ?_ ?_ ?_ ?_ ?_ ?_ <;> first | assumption | omega | ((simp only [cc, cA] at *; first | done | omega)) | (refine Or.inr ⟨by omega, ?_⟩; rw [show (c + 1).toNat - 1 = c.toNat by omega]; exact q2)) | (have x := hv4.resolve_left (by (simp only [cc, cA] at *; first | done | omega)); rw [x.2.1]; unfold fp_sb3; rw [show c.toNat - 1 = (fp_pw (m : Int) (ν 83 14).toNat).toNat - 1 by (simp only [cc, cA] at *; first | done | omega)]) | (trace_state; fail))
  have lp46' : ∀ (c : Int) (o5 o6 : Option am_V) (μ : am_N) , (∀ a b, ¬(a = 89 ∧ b < (ν 83 14).toNat) → a ≠ 99 → a ≠ 100 → a ≠ 104 → ¬(a = 83 ∧ (b = 35 ∨ b = 36)) → μ a b = ν a b) → sx_3 μ 100 → 0 ≤ c → c ≤ (fp_pw (m : Int) (ν 83 14).toNat) → (c = 0 ∧ μ 83 35 = 0 ∧ μ 83 36 = 999) ∨ (1 ≤ c ∧ μ 83 35 = ((fq_m (fp_um (mv ν) st m (ν 83 14).toNat) (c.toNat - 1) : Nat) : Int) ∧ μ 83 36 = (fp_um (mv ν) st m (ν 83 14).toNat) (fq_m (fp_um (mv ν) st m (ν 83 14).toNat) (c.toNat - 1))) → am_AW l 0 (fun _ => 0) 196 Q 46 [some (.inr (.inr 83)), some (.inl st), some (.inl (m : Int)), some (.inl (fp_pw (m : Int) (ν 83 14).toNat)), some (.inl c), o5, o6] [] μ := fun c o5 o6 μ hv0 hv1 hv2 hv3 hv4 => lp46 (((fp_pw (m : Int) (ν 83 14).toNat) - c) + 1).toNat c o5 o6 μ hv0 hv1 hv2 hv3 hv4 (by omega)
  have lp12 : ∀ (m : Nat) (x r : Int) , 0 ≤ r → r ≤ ν 83 14 → x = fp_pw (m : Int) r.toNat → ν 83 14 - r < (m : Int) → am_AW l 0 (fun _ => 0) 196 Q 12 [some (.inr (.inr 83)), some (.inl st), some (.inl (m : Int)), some (.inl x), some (.inl r), none, none] [] ν := by
    intro m
    induction m with
    | zero =>
      intro x r  hv0 hv1 hv2 hm
      exfalso
      omega
    | succ m ih =>
      intro x r  hv0 hv1 hv2 hm
      have cr : am_c r = r := am_cR (by omega) (by omega)
      refine am_go (ct := fun pc => Nat.beq pc 64 || Nat.beq pc 46 || Nat.beq pc 12) am_oX7_findStarts 300 ?_
      conv => whnf
      repeat' first
        | (refine (?_ : am_wp _ _ _ _ _ _ _ _ _ _ _ _); conv => whnf)
        | (refine (?_ : am_sw _ _ _ _); conv => whnf)
        | refine And.intro trivial ?_
        | exact trivial
        | (have rE : r.toNat = (ν 83 14).toNat := (by (simp only [cr, cn] at *; first | done | omega)); rw [hv2, rE]; refine lp46' 0 _ _ _ ?_ ?_ ?_ ?_ ?_)
        | (rw [em]; refine lp12' 1 0 ?_ ?_ ?_)
        | refine ih _ _  ?_ ?_ ?_ ?_
        | refine lp46' _ _ _ _ ?_ ?_ ?_ ?_ ?_
        | refine lp64' _ _ _ _ ?_ ?_ ?_ ?_ ?_ ?_ ?_ ?_ ?_ ?_ ?_
        | refine And.intro (fun h => absurd h (by decide)) (fun _ => ?_)
        | refine And.intro (fun _ => ?_) (fun h => absurd (by decide) h)
        | refine And.intro (fun _ => ?_) (fun _ => ?_)
        | refine And.intro ?_ ?_
      all_goals (first | decide | assumption | omega | ((simp only [cr, cn] at *; first | done | omega)) | (rw [show (r + 1).toNat = r.toNat + 1 by omega, hv2]; rfl) | (intro a b q1 q2 q3 q4 q5; rw [am_uE (by omega), am_uE (by omega)]) | exact sx_3N (sx_3N (fun p hp => mi_or hm0 p hp) (by decide)) (by decide) | exact Or.inl ⟨rfl, rfl, rfl⟩ | (trace_state; fail))
  have lp12' : ∀ (x r : Int) , 0 ≤ r → r ≤ ν 83 14 → x = fp_pw (m : Int) r.toNat → am_AW l 0 (fun _ => 0) 196 Q 12 [some (.inr (.inr 83)), some (.inl st), some (.inl (m : Int)), some (.inl x), some (.inl r), none, none] [] ν := fun x r  hv0 hv1 hv2 => lp12 ((ν 83 14 - r) + 1).toNat x r  hv0 hv1 hv2 (by omega)
  refine am_go (ct := fun pc => Nat.beq pc 64 || Nat.beq pc 46 || Nat.beq pc 12) am_oX7_findStarts 300 ?_
  conv => whnf
  repeat' first
    | (refine (?_ : am_wp _ _ _ _ _ _ _ _ _ _ _ _); conv => whnf)
    | (refine (?_ : am_sw _ _ _ _); conv => whnf)
    | refine And.intro trivial ?_
    | exact trivial
    | (rw [em]; refine lp12' 1 0 ?_ ?_ ?_)
    | refine lp12' _ _  ?_ ?_ ?_
    | refine lp46' _ _ _ _ ?_ ?_ ?_ ?_ ?_
    | refine lp64' _ _ _ _ ?_ ?_ ?_ ?_ ?_ ?_ ?_ ?_ ?_ ?_ ?_
    | refine And.intro (fun h => absurd h (by decide)) (fun _ => ?_)
    | refine And.intro (fun _ => ?_) (fun h => absurd (by decide) h)
    | refine And.intro (fun _ => ?_) (fun _ => ?_)
    | refine And.intro ?_ ?_
  all_goals (first | decide | assumption | omega | rfl | (rw [cs]; omega) | (trace_state; fail))
theorem n_starts {l : Launch} {ν : am_N} {Q : Option am_V → am_N → Prop} (st i : Int) (cs : am_c st = st) (ci : am_c i = i) (hm : mi ν) (hw : fp_fw 999 (mv ν)) (k : ∀ μ' : am_N, gm mQ ν μ' → Q (some (.inl (fp_str (mv ν) st i))) μ') : am_Does l 197 [.inr (.inr 83), .inl st, .inl i] ν Q := by
  refine am_Does_of (Nat.le_of_ble_eq_true rfl) (Nat.le_of_ble_eq_true rfl) (Nat.le_of_ble_eq_true rfl) ?_
  have l0 : am_c 0 = 0 := rfl
  have l1 : am_c 1 = 1 := rfl
  have l2 : am_c 2 = 2 := rfl
  have l3 : am_c 3 = 3 := rfl
  have l5 : am_c 5 = 5 := rfl
  have l20 : am_c 20 = 20 := rfl
  have l50 : am_c 50 = 50 := rfl
  have l99 : am_c 99 = 99 := rfl
  have m1' : am_c (-1) = -1 := rfl
  have m2' : am_c (-2) = -2 := rfl
  have m3' : am_c (-3) = -3 := rfl
  have m4' : am_c (-4) = -4 := rfl
  have m6' : am_c (-6) = -6 := rfl
  have m9' : am_c (-9) = -9 := rfl
  have hm0 := hm
  obtain ⟨hf, -, -, -, -, -, hx⟩ := fw_M hw (by decide)
  have f0 := hf.1.1
  have f1 := hf.1.2
  have e4 : mv ν 0 4 = ν 83 14 := rfl
  have cn : am_c (ν 83 14) = ν 83 14 := am_cR (by omega) (by omega)
  have kk := fun (x : Int) (μ' : am_N) (h : gm mQ ν μ') (e : x = fp_str (mv ν) st i) => am_qe (k μ' h) e
  clear k
  have lp104 : ∀ (m : Nat) (y r : Int) (μ : am_N) , gm mQ ν μ → y = ((fp_dq (99 / st + 1).toNat (fp_sb3 (mv ν) st (99 / st + 1).toNat (ν 83 14).toNat) ((ν 83 14).toNat - 1 - r.toNat) : Nat) : Int) → i ≤ r → r < ν 83 14 → (5 ≤ st ∧ st ≤ 50) → 0 ≤ i → (1 ≤ ν 83 14 ∧ ν 83 14 ≤ 3) → r - i < (m : Int) → am_AW l 0 (fun _ => 0) 197 Q 104 [some (.inr (.inr 83)), some (.inl st), some (.inl i), some (.inl 0), some (.inl (((99 / st + 1).toNat : Nat) : Int)), some (.inl y), some (.inl r)] [] μ := by
    intro m
    induction m with
    | zero =>
      intro y r μ hv0 hv1 hv2 hv3 hv4 hv5 hv6 hm
      exfalso
      omega
    | succ m ih =>
      intro y r μ hv0 hv1 hv2 hv3 hv4 hv5 hv6 hm
      have cr : am_c r = r := am_cR (by omega) (by omega)
      obtain ⟨m1, m2, m3⟩ := fp_stm hv4.1 hv4.2
      have pb := fp_pw_b (m := (((99 / st + 1).toNat : Nat) : Int)) (by omega) (by omega) (ν 83 14).toNat (by omega)
      have bl := fq_m_l (fp_um (mv ν) st (99 / st + 1).toNat (ν 83 14).toNat) ((fp_pw (((99 / st + 1).toNat : Nat) : Int) (ν 83 14).toNat).toNat - 1)
      have bl2 : fp_sb3 (mv ν) st (99 / st + 1).toNat (ν 83 14).toNat ≤ 8000 := by unfold fp_sb3; omega
      have dl := fp_dq_l (99 / st + 1).toNat (fp_sb3 (mv ν) st (99 / st + 1).toNat (ν 83 14).toNat) ((ν 83 14).toNat - 1 - r.toNat)
      have cy : am_c y = y := am_cR (by omega) (by omega)
      have cm : am_c (((99 / st + 1).toNat : Nat) : Int) = (((99 / st + 1).toNat : Nat) : Int) := am_cR (by omega) (by omega)
      have rem : (am_c y).tmod (am_c (((99 / st + 1).toNat : Nat) : Int)) = ((fp_dq (99 / st + 1).toNat (fp_sb3 (mv ν) st (99 / st + 1).toNat (ν 83 14).toNat) ((ν 83 14).toNat - 1 - r.toNat) % (99 / st + 1).toNat : Nat) : Int) := by rw [cy, cm, hv1]; exact fp_rmN _ _
      have quo : (am_c y).tdiv (am_c (((99 / st + 1).toNat : Nat) : Int)) = ((fp_dq (99 / st + 1).toNat (fp_sb3 (mv ν) st (99 / st + 1).toNat (ν 83 14).toNat) ((ν 83 14).toNat - 1 - r.toNat + 1) : Nat) : Int) := by rw [cy, cm, hv1]; exact fp_qmN _ _
      refine am_go (ct := fun pc => Nat.beq pc 104) am_oX7_starts 300 ?_
      conv => whnf
      repeat' first
        | (refine (?_ : am_wp _ _ _ _ _ _ _ _ _ _ _ _); conv => whnf)
        | (refine (?_ : am_sw _ _ _ _); conv => whnf)
        | refine And.intro trivial ?_
        | exact trivial
        | (refine (?_ : gm _ _ _); (first | decide | assumption | omega | (rw [cm]; omega) | ((simp only [cr, ci] at *; first | done | omega)) | (rw [quo, show (ν 83 14).toNat - 1 - r.toNat + 1 = (ν 83 14).toNat - 1 - (r + -1).toNat by omega]) | (rw [quo, show (ν 83 14).toNat - 1 - r.toNat + 1 = (ν 83 14).toNat - 1 - (r - 1).toNat by omega]) | (unfold fp_str; rw [e4, if_neg (by omega), if_neg (by omega), if_neg (by omega), if_neg (by omega), rE]; rfl) | (trace_state; fail)))
        | (have rE : r = i := (by (simp only [cr, ci] at *; first | done | omega)); rw [rem]; refine kk _ _ hv0 ?_)
        | refine x_isIn (ν 83 14) _ _ _ rfl cn ?_ ?_ (fun y0 y1 => ?_) (fun y => ?_)
        | refine x_no _ ?_ (fun μr fr => ?_)
        | (have h5 : 5 ≤ st ∧ st ≤ 50 := (by (simp only [cs, l5, l50] at *; first | done | omega)); have hi0 : 0 ≤ i := (by (simp only [ci, l0] at *; first | done | omega)); have hin : i < ν 83 14 := (by (simp only [ci, cn] at *; first | done | omega)); have em : (am_c 99).tdiv (am_c st) + 1 = (((99 / st + 1).toNat : Nat) : Int) := (by obtain ⟨m1, m2, m3⟩ := fp_stm h5.1 h5.2; rw [l99, cs, Int.tdiv_eq_ediv_of_nonneg (by decide)]; omega); refine m_keep1 (fun μ1 u1 _ _ _ => ?_); have hD : MD mQ ν μ1 := md_start (gm_rf hm0) u1; have p1 : mv μ1 = (mv ν) := mv_keep (fun a b q => u1.2 a b (by omega) (by omega)); have n1 : μ1 83 14 = ν 83 14 := u1.2 83 14 (by omega) (by omega))
        | (refine n_findStarts st (99 / st + 1).toNat cs (md_i hD) (by rw [p1]; exact hw) (by rw [n1]; exact ⟨y0, y1⟩) h5 rfl (fun μ2 f2 p2 b2 => ?_); rw [p1, n1] at b2; have hG2 : gm mM μ1 μ2 := gm_fs (md_i hD) (fun a b q1 q2 q3 q4 q5 => f2 a b (fun z => q1 z.1) q2 q3 q4 q5) p2)
        | (refine m_come1 (fun μ3 u3 _ _ _ => ?_); have hG : gm mQ ν μ3 := md_back (md_tr hD hG2 (fun _ _ q => q)) u3 (fun _ _ q => q); have b3 : μ3 83 35 = ((fp_sb3 (mv ν) st (99 / st + 1).toNat (ν 83 14).toNat : Nat) : Int) := (u3.2 83 35 rfl (by omega)).trans b2; have n3 : μ3 83 14 = ν 83 14 := hG.2 83 14 rfl)
        | (rw [em, b3, n3]; refine lp104' _ _ _ hG ?_ ?_ ?_ h5 hi0 ⟨y0, y1⟩)
        | refine kk _ _ (gm_rfQ hm0) ?_
        | refine kk _ _ (gm_84 (fun _ => rfl) hm0 fr) ?_
        | refine And.intro (fun h => absurd h (by omega)) (fun _ => ?_)
        | refine And.intro (fun _ => ?_) (fun h => absurd h (by omega))
        | refine ih _ _ _ ?_ ?_ ?_ ?_ ?_ ?_ ?_ ?_
        | refine And.intro (fun h => absurd h (by decide)) (fun _ => ?_)
        | refine And.intro (fun _ => ?_) (fun h => absurd (by decide) h)
        | refine And.intro (fun _ => ?_) (fun _ => ?_)
        | refine And.intro ?_ ?_
      all_goals (first | decide | assumption | omega | (rw [cm]; omega) | ((simp only [cr, ci] at *; first | done | omega)) | (rw [quo, show (ν 83 14).toNat - 1 - r.toNat + 1 = (ν 83 14).toNat - 1 - (r + -1).toNat by omega]) | (rw [quo, show (ν 83 14).toNat - 1 - r.toNat + 1 = (ν 83 14).toNat - 1 - (r - 1).toNat by omega]) | (unfold fp_str; rw [e4, if_neg (by omega), if_neg (by omega), if_neg (by omega), if_neg (by omega), rE]; rfl) | (trace_state; fail))
  have lp104' : ∀ (y r : Int) (μ : am_N) , gm mQ ν μ → y = ((fp_dq (99 / st + 1).toNat (fp_sb3 (mv ν) st (99 / st + 1).toNat (ν 83 14).toNat) ((ν 83 14).toNat - 1 - r.toNat) : Nat) : Int) → i ≤ r → r < ν 83 14 → (5 ≤ st ∧ st ≤ 50) → 0 ≤ i → (1 ≤ ν 83 14 ∧ ν 83 14 ≤ 3) → am_AW l 0 (fun _ => 0) 197 Q 104 [some (.inr (.inr 83)), some (.inl st), some (.inl i), some (.inl 0), some (.inl (((99 / st + 1).toNat : Nat) : Int)), some (.inl y), some (.inl r)] [] μ := fun y r μ hv0 hv1 hv2 hv3 hv4 hv5 hv6 => lp104 ((r - i) + 1).toNat y r μ hv0 hv1 hv2 hv3 hv4 hv5 hv6 (by omega)
  refine am_go (ct := fun pc => Nat.beq pc 104) am_oX7_starts 300 ?_
  conv => whnf
  repeat' first
    | (refine (?_ : am_wp _ _ _ _ _ _ _ _ _ _ _ _); conv => whnf)
    | (refine (?_ : am_sw _ _ _ _); conv => whnf)
    | refine And.intro trivial ?_
    | exact trivial
    | (refine (?_ : gm _ _ _); (first | decide | assumption | omega | rfl | ((simp only [cs, ci, cn, l0, l5, l50] at *; first | done | omega)) | (rw [cs]; omega) | (rw [show (ν 83 14).toNat - 1 - (ν 83 14 - 1).toNat = 0 by omega]; rfl) | (unfold fp_str; rw [if_pos (by (simp only [cs, ci, l0, l5] at *; first | done | omega))]) | (unfold fp_str; rw [if_neg (by (simp only [cs, ci, l0, l5] at *; first | done | omega)), if_pos (by (simp only [cs, l50] at *; first | done | omega))]) | (unfold fp_str; rw [e4, if_neg (by (simp only [cs, ci, l0, l5] at *; first | done | omega)), if_neg (by (simp only [cs, l50] at *; first | done | omega)), if_pos (by omega)]) | (unfold fp_str; rw [e4, if_neg (by (simp only [cs, ci, l0, l5] at *; first | done | omega)), if_neg (by (simp only [cs, l50] at *; first | done | omega)), if_neg (by omega), if_pos (by (simp only [cn, ci] at *; first | done | omega))]) | (trace_state; fail)))
    | refine x_isIn (ν 83 14) _ _ _ rfl cn ?_ ?_ (fun y0 y1 => ?_) (fun y => ?_)
    | refine x_no _ ?_ (fun μr fr => ?_)
    | (have h5 : 5 ≤ st ∧ st ≤ 50 := (by (simp only [cs, l5, l50] at *; first | done | omega)); have hi0 : 0 ≤ i := (by (simp only [ci, l0] at *; first | done | omega)); have hin : i < ν 83 14 := (by (simp only [ci, cn] at *; first | done | omega)); have em : (am_c 99).tdiv (am_c st) + 1 = (((99 / st + 1).toNat : Nat) : Int) := (by obtain ⟨m1, m2, m3⟩ := fp_stm h5.1 h5.2; rw [l99, cs, Int.tdiv_eq_ediv_of_nonneg (by decide)]; omega); refine m_keep1 (fun μ1 u1 _ _ _ => ?_); have hD : MD mQ ν μ1 := md_start (gm_rf hm0) u1; have p1 : mv μ1 = (mv ν) := mv_keep (fun a b q => u1.2 a b (by omega) (by omega)); have n1 : μ1 83 14 = ν 83 14 := u1.2 83 14 (by omega) (by omega))
    | (refine n_findStarts st (99 / st + 1).toNat cs (md_i hD) (by rw [p1]; exact hw) (by rw [n1]; exact ⟨y0, y1⟩) h5 rfl (fun μ2 f2 p2 b2 => ?_); rw [p1, n1] at b2; have hG2 : gm mM μ1 μ2 := gm_fs (md_i hD) (fun a b q1 q2 q3 q4 q5 => f2 a b (fun z => q1 z.1) q2 q3 q4 q5) p2)
    | (refine m_come1 (fun μ3 u3 _ _ _ => ?_); have hG : gm mQ ν μ3 := md_back (md_tr hD hG2 (fun _ _ q => q)) u3 (fun _ _ q => q); have b3 : μ3 83 35 = ((fp_sb3 (mv ν) st (99 / st + 1).toNat (ν 83 14).toNat : Nat) : Int) := (u3.2 83 35 rfl (by omega)).trans b2; have n3 : μ3 83 14 = ν 83 14 := hG.2 83 14 rfl)
    | (rw [em, b3, n3]; refine lp104' _ _ _ hG ?_ ?_ ?_ h5 hi0 ⟨y0, y1⟩)
    | refine kk _ _ (gm_rfQ hm0) ?_
    | refine kk _ _ (gm_84 (fun _ => rfl) hm0 fr) ?_
    | refine And.intro (fun h => absurd h (by omega)) (fun _ => ?_)
    | refine And.intro (fun _ => ?_) (fun h => absurd h (by omega))
    | refine lp104' _ _ _ ?_ ?_ ?_ ?_ ?_ ?_ ?_
    | refine And.intro (fun h => absurd h (by decide)) (fun _ => ?_)
    | refine And.intro (fun _ => ?_) (fun h => absurd (by decide) h)
    | refine And.intro (fun _ => ?_) (fun _ => ?_)
    | refine And.intro ?_ ?_
  all_goals (first | decide | assumption | omega | rfl | ((simp only [cs, ci, cn, l0, l5, l50] at *; first | done | omega)) | (rw [cs]; omega) | (rw [show (ν 83 14).toNat - 1 - (ν 83 14 - 1).toNat = 0 by omega]; rfl) | (unfold fp_str; rw [if_pos (by (simp only [cs, ci, l0, l5] at *; first | done | omega))]) | (unfold fp_str; rw [if_neg (by (simp only [cs, ci, l0, l5] at *; first | done | omega)), if_pos (by (simp only [cs, l50] at *; first | done | omega))]) | (unfold fp_str; rw [e4, if_neg (by (simp only [cs, ci, l0, l5] at *; first | done | omega)), if_neg (by (simp only [cs, l50] at *; first | done | omega)), if_pos (by omega)]) | (unfold fp_str; rw [e4, if_neg (by (simp only [cs, ci, l0, l5] at *; first | done | omega)), if_neg (by (simp only [cs, l50] at *; first | done | omega)), if_neg (by omega), if_pos (by (simp only [cn, ci] at *; first | done | omega))]) | (trace_state; fail))
