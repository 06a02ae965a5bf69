/-! two rows put: in how many of sixteen the one is ahead -/
theorem fp_cr_0 {L N H : Nat → Int} {m t s u r : Int} (hm : m = 2) (a0 : L 0 = fp_pt t s 0) (a1 : N 0 = t) (a2 : H 0 = t + s) (b0 : L 1 = fp_pt u r 0) (b1 : N 1 = u) (b2 : H 1 = u + r) : fp_wy L N H m.toNat 0 = fp_aw 0 t s u r := by
  rw [hm]
  show fp_wy L N H 2 0 = _
  rw [fp_wy_20, a0, a1, a2, b0, b1, b2]
  unfold fp_aw
  simp only [Int.add_zero]
theorem fp_cr_1 {L N H : Nat → Int} {m t s u r : Int} (hm : m = 2) (a0 : L 1 = fp_pt t s 0) (a1 : N 1 = t) (a2 : H 1 = t + s) (b0 : L 0 = fp_pt u r 0) (b1 : N 0 = u) (b2 : H 0 = u + r) : fp_wy L N H m.toNat 1 = fp_aw 1 t s u r := by
  rw [hm]
  show fp_wy L N H 2 1 = _
  rw [fp_wy_21, a0, a1, a2, b0, b1, b2]
  rfl
theorem fp_cr_b {L N H : Nat → Int} {m t s u r : Int} (hm : m = 2) (t0 : 1 ≤ t) (t1 : t ≤ 100000) (s0 : 0 ≤ s) (s1 : s ≤ 20) (u0 : 1 ≤ u) (u1 : u ≤ 100000) (r0 : 0 ≤ r) (r1 : r ≤ 20) (a0 : L 0 = fp_pt t s 0) (a1 : N 0 = t) (a2 : H 0 = t + s) (b0 : L 1 = fp_pt u r 0) (b1 : N 1 = u) (b2 : H 1 = u + r) : ∀ j : Nat, (j : Int) < m → (0 ≤ L j ∧ L j ≤ 200000) ∧ (0 ≤ N j ∧ N j ≤ 200000) ∧ (0 ≤ H j ∧ H j ≤ 200000) := fun j hj => by
  have x := fp_pt_b (t := t) (s := s) (q := 0) t0 t1 s0 s1
  have y := fp_pt_b (t := u) (s := r) (q := 0) u0 u1 r0 r1
  rcases (show j = 0 ∨ j = 1 by rw [hm] at hj; omega) with rfl | rfl
  · rw [a0, a1, a2]; omega
  · rw [b0, b1, b2]; omega
/-! bags -/
theorem fp_bgF : ∀ (s : Fin 64) (b : Fin 6), am_and (am_shr ((s : Nat) : Int) ((b : Nat) : Int)) 1 = 0 ∨ am_and (am_shr ((s : Nat) : Int) ((b : Nat) : Int)) 1 = 1 := by decide +kernel
theorem fp_bg {s b : Int} (s0 : 0 ≤ s) (s1 : s ≤ 63) (b0 : 0 ≤ b) (b1 : b < 6) : am_and (am_shr s b) 1 = 0 ∨ am_and (am_shr s b) 1 = 1 := by
  have h := fp_bgF ⟨s.toNat, by omega⟩ ⟨b.toNat, by omega⟩
  simp only [Int.toNat_of_nonneg s0, Int.toNat_of_nonneg b0] at h
  exact h
/-- how many sets there are -/
theorem fp_sh_b {n : Int} (h0 : 0 ≤ n) (h1 : n ≤ 6) : 1 ≤ am_shl 1 n ∧ am_shl 1 n ≤ 64 := by
  rcases (show n = 0 ∨ n = 1 ∨ n = 2 ∨ n = 3 ∨ n = 4 ∨ n = 5 ∨ n = 6 by omega) with rfl | rfl | rfl | rfl | rfl | rfl | rfl <;> exact ⟨by decide +kernel, by decide +kernel⟩
/-- what the one carries, what the other -/
def fp_mb (B : Nat → Int) (s : Int) : Nat → Int
  | 0 => 0
  | b + 1 => if am_and (am_shr s b) 1 = 0 then fp_mb B s b else fp_mb B s b + B b
def fp_yb (B : Nat → Int) (s : Int) : Nat → Int
  | 0 => 0
  | b + 1 => if am_and (am_shr s b) 1 = 0 then fp_yb B s b + B b else fp_yb B s b
theorem fp_mb_b {B : Nat → Int} {n : Int} (s : Int) (h : ∀ b : Nat, (b : Int) < n → 1 ≤ B b ∧ B b ≤ 9) : ∀ m : Nat, (m : Int) ≤ n → (0 ≤ fp_mb B s m ∧ fp_mb B s m ≤ 9 * (m : Int)) ∧ (0 ≤ fp_yb B s m ∧ fp_yb B s m ≤ 9 * (m : Int)) := by
  intro m
  induction m with
  | zero => intro _; exact ⟨⟨(by first | exact Int.le_refl 0 | (show (0 : Int) ≤ _; decide)), (by first | exact Int.le_refl 0 | (show (0 : Int) ≤ _; decide))⟩, ⟨(by first | exact Int.le_refl 0 | (show (0 : Int) ≤ _; decide)), (by first | exact Int.le_refl 0 | (show (0 : Int) ≤ _; decide))⟩⟩
  | succ m ih =>
    intro hm
    have q := ih (by omega)
    have w := h m (by omega)
    simp only [fp_mb, fp_yb]
    split <;> omega
def fp_bv (F : am_N) (i j : Nat) (B : Nat → Int) (n : Nat) (s : Int) : Int := fp_aw (if i < j then 0 else 1) (fp_tf F i + 2 * fp_mb B s n) (F 4 i) (fp_tf F j + 2 * fp_yb B s n) (F 4 j)
theorem fp_bv_b (F : am_N) (i j : Nat) (B : Nat → Int) (n : Nat) (s : Int) : 0 ≤ fp_bv F i j B n s ∧ fp_bv F i j B n s ≤ 16 := fp_aw_b _ _ _ _ _
/-- how far from a half -/
def fp_bf (F : am_N) (i j : Nat) (B : Nat → Int) (n : Nat) (s : Nat) : Int := if 0 ≤ fp_bv F i j B n (s : Int) - 8 then fp_bv F i j B n (s : Int) - 8 else 0 - (fp_bv F i j B n (s : Int) - 8)
theorem fp_bf_b (F : am_N) (i j : Nat) (B : Nat → Int) (n : Nat) (s : Nat) : 0 ≤ fp_bf F i j B n s ∧ fp_bf F i j B n s ≤ 8 := by
  have h := fp_bv_b F i j B n (s : Int)
  unfold fp_bf
  split <;> omega
def fp_bgt (F : am_N) (i j : Nat) (B : Nat → Int) (n : Int) : Nat := fq_m (fp_bf F i j B n.toNat) ((am_shl 1 n).toNat - 1)
def fp_bgr (F : am_N) (B : Nat → Int) (n i j w : Int) : Int := if ¬((0 ≤ i ∧ i < F 0 4) ∧ (0 ≤ j ∧ j < F 0 4) ∧ i ≠ j) then -1 else if ¬(w = 0 ∨ w = 1) then -2 else if w = 0 then ((fp_bgt F i.toNat j.toNat B n : Nat) : Int) else fp_bf F i.toNat j.toNat B n.toNat (fp_bgt F i.toNat j.toNat B n)
theorem x_at_48 {l : Launch} {ν : am_N} {Q : Option am_V → am_N → Prop} (i : Int) (i0 : 0 ≤ i) (i1 : i < ν 48 1) (n1 : ν 48 1 ≤ 6) (k : Q (some (.inl (ν 49 i.toNat))) ν) : am_Does l 43 [.inr (.inr 48), .inl i] ν Q := by
  refine am_Does_of (Nat.le_of_ble_eq_true rfl) (Nat.le_of_ble_eq_true rfl) (Nat.le_of_ble_eq_true rfl) ?_
  have l0 : am_c 0 = 0 := rfl
  have l1 : am_c 1 = 1 := rfl
  have l2 : am_c 2 = 2 := rfl
  have l8 : am_c 8 = 8 := rfl
  have ci : am_c i = i := am_cR (by omega) (by omega)
  have cn : am_c (ν 48 1) = ν 48 1 := am_cR (by omega) (by omega)
  have ei : (am_c i).toNat = i.toNat := by rw [ci]
  refine am_go (ct := fun _ => false) am_oX3_at 300 ?_
  conv => whnf
  repeat' first
    | (refine (?_ : am_wp _ _ _ _ _ _ _ _ _ _ _ _); conv => whnf)
    | (refine (?_ : am_sw _ _ _ _); conv => whnf)
    | refine And.intro trivial ?_
    | exact trivial
    | refine am_qe k ?_
    | refine And.intro (fun z => absurd z (by rw [ci]; omega)) (fun _ => ?_)
    | refine And.intro (fun z => absurd z (by rw [ci, cn]; omega)) (fun _ => ?_)
    | refine And.intro (fun h => absurd h (by decide)) (fun _ => ?_)
    | refine And.intro (fun _ => ?_) (fun h => absurd (by decide) h)
    | refine And.intro (fun _ => ?_) (fun _ => ?_)
    | refine And.intro ?_ ?_
  all_goals (first | decide | omega | (rw [ci]; omega) | (rw [ei]) | (trace_state; fail))
theorem s_carry0 {l : Launch} {ν : am_N} {Q : Option am_V → am_N → Prop} (i j s : Int) (F : am_N) (B : Nat → Int) (ci : am_c i = i) (cj : am_c j = j) (eF : fv ν 1 = F) (hw : fp_fw 999 F) (hij : i < j) (i0 : 0 ≤ i) (i1 : i < ν 1 4) (j0 : 0 ≤ j) (j1 : j < ν 1 4) (n0 : 0 ≤ ν 48 1) (n6 : ν 48 1 ≤ 6) (e49 : ∀ b : Nat, (b : Int) < ν 48 1 → ν 49 b = B b) (hB : ∀ b : Nat, (b : Int) < ν 48 1 → 1 ≤ B b ∧ B b ≤ 9) (s0 : 0 ≤ s) (s1 : s ≤ 63) (k : ∀ μ' : am_N, (∀ a b, ¬(15 ≤ a ∧ a < 22) → ¬(30 ≤ a ∧ a ≤ 32) → ¬(a = 29 ∧ b = 0) → μ' a b = ν a b) → μ' 15 4 = 2 → μ' 29 0 = 2 → Q (some (.inl (fp_bv F i.toNat j.toNat B (ν 48 1).toNat s))) μ') : am_Does l 131 [.inr (.inr 0), .inl i, .inl j, .inl s] ν Q := by
  refine am_Does_of (Nat.le_of_ble_eq_true rfl) (Nat.le_of_ble_eq_true rfl) (Nat.le_of_ble_eq_true rfl) ?_
  have l0 : am_c 0 = 0 := rfl
  have l1 : am_c 1 = 1 := rfl
  have l2 : am_c 2 = 2 := rfl
  have l8 : am_c 8 = 8 := rfl
  subst eF
  obtain ⟨hf1, -, -, -, -, -, hx⟩ := fw_C hw (by decide)
  have n14 := hf1.1
  have i4 : i < 4 := by omega
  have j4 : j < 4 := by omega
  have ei : (am_c i).toNat = i.toNat := by rw [ci]
  have ej : (am_c j).toNat = j.toNat := by rw [cj]
  have c48 : am_c (ν 48 1) = ν 48 1 := am_cR (by omega) (by omega)
  have lp28 : ∀ (m : Nat) (x y c : Int) (μ : am_N) , (∀ a b, ¬(15 ≤ a ∧ a < 22) → ¬(30 ≤ a ∧ a ≤ 32) → ¬(a = 29 ∧ b = 0) → μ a b = ν a b) → μ 15 4 = 2 → μ 29 0 = 2 → 0 ≤ c → c ≤ ν 48 1 → x = fp_mb B s c.toNat → y = fp_mb B s c.toNat + fp_yb B s c.toNat → ν 48 1 - c < (m : Int) → am_AW l 0 (fun _ => 0) 131 Q 28 [some (.inr (.inr 0)), some (.inl i), some (.inl j), some (.inl s), some (.inl 0), some (.inl x), some (.inl y), some (.inl c)] [] μ := by
    intro m
    induction m with
    | zero =>
      intro x y c μ hv0 hv1 hv2 hv3 hv4 hv5 hv6 hm
      exfalso
      omega
    | succ m ih =>
      intro x y c μ hv0 hv1 hv2 hv3 hv4 hv5 hv6 hm
      have cc : am_c c = c := am_cR (by omega) (by omega)
      have ec : ((c.toNat : Nat) : Int) = c := Int.toNat_of_nonneg hv3
      have e48 : μ 48 1 = ν 48 1 := hv0 48 1 (by omega) (by omega) (by omega)
      have e49' : ∀ b, μ 49 b = ν 49 b := fun b => hv0 49 b (by omega) (by omega) (by omega)
      have e14 : μ 1 4 = ν 1 4 := hv0 1 4 (by omega) (by omega) (by omega)
      have bt := fun z : c < ν 48 1 => fp_bg (b := c) s0 s1 hv3 (by omega)
      have ca := fun z : c < ν 48 1 => (show am_c (am_and (am_shr s c) 1) = am_and (am_shr s c) 1 by rcases bt z with h | h <;> rw [h] <;> rfl)
      have xb := fp_mb_b s hB c.toNat (by omega)
      obtain ⟨g1, g2⟩ := am_fC_ch (c := 1) (fun a b q1 q2 => hv0 a b (by omega) (by omega) (by omega))
      have gf := g1 hf1
      have ti := am_TC_b (i := i.toNat) hf1 (by omega)
      have tj := am_TC_b (i := j.toNat) hf1 (by omega)
      have spi := (hx i.toNat (by omega)).2.2.2
      have spj := (hx j.toNat (by omega)).2.2.2
      have eSi : μ 5 i.toNat = ν 5 i.toNat := hv0 5 _ (by omega) (by omega) (by omega)
      have eSj : μ 5 j.toNat = ν 5 j.toNat := hv0 5 _ (by omega) (by omega) (by omega)
      have vT := fv_T (μ := ν) (c := 1) (i := i.toNat) (by omega)
      have vU := fv_T (μ := ν) (c := 1) (i := j.toNat) (by omega)
      have vS : fv ν 1 4 i.toNat = ν 5 i.toNat := fv_a (by decide) (by decide) (by omega)
      have vR : fv ν 1 4 j.toNat = ν 5 j.toNat := fv_a (by decide) (by decide) (by omega)
      refine am_go (ct := fun pc => Nat.beq pc 28) am_oX6_carrying 300 ?_
      conv => whnf
      repeat' first
        | (refine (?_ : am_wp _ _ _ _ _ _ _ _ _ _ _ _); conv => whnf)
        | (refine (?_ : am_sw _ _ _ _); conv => whnf)
        | refine And.intro trivial ?_
        | exact trivial
        | (have hc : c < ν 48 1 := (by (simp only [cc, e48, c48] at *; first | done | omega)); (first | have ca := ca hc | skip); (first | have bt := bt hc | skip); refine x_at_48 c hv3 (by rw [e48]; exact hc) (by rw [e48]; omega) ?_; rw [e49', e49 c.toNat (by omega)])
        | (have hc : c = ν 48 1 := (by (simp only [cc, e48, c48] at *; first | done | omega)); refine x_tenths_1 i i0 (by rw [e14]; exact i1) gf ?_; rw [g2])
        | (rw [ei, eSi]; have t0 : 1 ≤ am_TC ν 1 i.toNat + 2 * x := (by omega); have t1 : am_TC ν 1 i.toNat + 2 * x ≤ 100000 := (by omega); refine x_put 0 (am_TC ν 1 i.toNat + 2 * x) (ν 5 i.toNat) (by decide) (by decide) t0 t1 spi.1 spi.2 (fun μ3 y1 y2 y3 y4 => ?_); have f3 : ∀ a b, a < 30 → μ3 a b = μ a b := (fun a b z => y1 a b (by omega)); obtain ⟨g3, g4⟩ := am_fC_ch (c := 1) (fun a b q1 q2 => f3 a b (by omega)))
        | (refine x_tenths_1 j j0 (by rw [f3 1 4 (by omega), e14]; exact j1) (g3 gf) ?_; rw [g4, g2])
        | (rw [ej, f3 5 _ (by omega), eSj]; have u0 : 1 ≤ am_TC ν 1 j.toNat + 2 * (y - x) := (by omega); have u1 : am_TC ν 1 j.toNat + 2 * (y - x) ≤ 100000 := (by omega); refine x_put 1 (am_TC ν 1 j.toNat + 2 * (y - x)) (ν 5 j.toNat) (by decide) (by decide) u0 u1 spj.1 spj.2 (fun μ4 z1 z2 z3 z4 => ?_); have a0 : μ4 30 0 = fp_pt (am_TC ν 1 i.toNat + 2 * x) (ν 5 i.toNat) 0 := (z1 30 0 (by decide)).trans y2; have a1 : μ4 31 0 = am_TC ν 1 i.toNat + 2 * x := (z1 31 0 (by decide)).trans y3; have a2 : μ4 32 0 = am_TC ν 1 i.toNat + 2 * x + ν 5 i.toNat := (z1 32 0 (by decide)).trans y4; have b0 : μ4 30 1 = fp_pt (am_TC ν 1 j.toNat + 2 * (y - x)) (ν 5 j.toNat) 0 := z2; have b1 : μ4 31 1 = am_TC ν 1 j.toNat + 2 * (y - x) := z3; have b2 : μ4 32 1 = am_TC ν 1 j.toNat + 2 * (y - x) + ν 5 j.toNat := z4; have f4 : ∀ a b, ¬(30 ≤ a ∧ a ≤ 32) → μ4 a b = μ a b := (fun a b z => (z1 a b (by omega)).trans (y1 a b (by omega))); have m29 : μ4 29 0 = 2 := (f4 29 0 (by omega)).trans hv2; have m15 : μ4 15 4 = 2 := (f4 15 4 (by omega)).trans hv1; have fr : (∀ a b, ¬(15 ≤ a ∧ a < 22) → ¬(30 ≤ a ∧ a ≤ 32) → ¬(a = 29 ∧ b = 0) → μ4 a b = ν a b) := (fun a b q1 q2 q3 => (f4 a b q2).trans (hv0 a b q1 q2 q3)); have hb := fp_cr_b m29 t0 t1 spi.1 spi.2 u0 u1 spj.1 spj.2 a0 a1 a2 b0 b1 b2; have ez := fp_cr_0 m29 a0 a1 a2 b0 b1 b2; have yx : y - x = fp_yb B s c.toNat := (by omega); rw [yx, hv5, vT, vU, ← vS, ← vR, hc] at ez)
        | (refine x_ways 0 (by decide) (by rw [m29]; decide) (by rw [m29]; decide) hb ?_)
        | (refine am_qe (k μ4 fr m15 m29) (ez.trans ?_); unfold fp_bv; rw [if_pos (by omega)])
        | (refine x_alone0 _ _ ci cj hij i0 i4 j0 j4 (fun μ1 f1 e1 n1 r0 r1 => ?_); obtain ⟨hf, hs⟩ := fp_ah_f0 hw i0 i1 j0 j1 e1 r0 r1 n1)
        | (refine x_draw_15 hf hs (fun μ2 f2 d0 dr => ?_); have hn : μ2 29 0 = 2 := d0.trans n1; have h15 : μ2 15 4 = 2 := (f2 15 4 (by omega) (by omega)).trans n1; have fr : (∀ a b, ¬(15 ≤ a ∧ a < 22) → ¬(30 ≤ a ∧ a ≤ 32) → ¬(a = 29 ∧ b = 0) → μ2 a b = ν a b) := fun a b q1 q2 q3 => (f2 a b q2 q3).trans (f1 a b q1))
        | refine ih _ _ _ _ ?_ ?_ ?_ ?_ ?_ ?_ ?_ ?_
        | refine And.intro (fun h => absurd h (by decide)) (fun _ => ?_)
        | refine And.intro (fun _ => ?_) (fun h => absurd (by decide) h)
        | refine And.intro (fun _ => ?_) (fun _ => ?_)
        | refine And.intro ?_ ?_
      all_goals (first | decide | assumption | omega | (rw [ei]; omega) | (rw [ej]; omega) | (rw [ci]; omega) | (rw [cj]; omega) | (rw [show (c + 1).toNat = c.toNat + 1 by omega]; simp only [fp_mb, fp_yb]; rw [ec]; first | (rw [if_pos (by (simp only [ca, l0] at *; first | done | omega))]; omega) | (rw [if_neg (by (simp only [ca, l0] at *; first | done | omega))]; omega) | (rw [if_pos (by (simp only [ca, l0] at *; first | done | omega)), if_pos (by (simp only [ca, l0] at *; first | done | omega))]; omega) | (rw [if_neg (by (simp only [ca, l0] at *; first | done | omega)), if_neg (by (simp only [ca, l0] at *; first | done | omega))]; omega)) | (trace_state; fail))
  have lp28' : ∀ (x y c : Int) (μ : am_N) , (∀ a b, ¬(15 ≤ a ∧ a < 22) → ¬(30 ≤ a ∧ a ≤ 32) → ¬(a = 29 ∧ b = 0) → μ a b = ν a b) → μ 15 4 = 2 → μ 29 0 = 2 → 0 ≤ c → c ≤ ν 48 1 → x = fp_mb B s c.toNat → y = fp_mb B s c.toNat + fp_yb B s c.toNat → am_AW l 0 (fun _ => 0) 131 Q 28 [some (.inr (.inr 0)), some (.inl i), some (.inl j), some (.inl s), some (.inl 0), some (.inl x), some (.inl y), some (.inl c)] [] μ := fun x y c μ hv0 hv1 hv2 hv3 hv4 hv5 hv6 => lp28 ((ν 48 1 - c) + 1).toNat x y c μ hv0 hv1 hv2 hv3 hv4 hv5 hv6 (by omega)
  refine am_go (ct := fun pc => Nat.beq pc 28) am_oX6_carrying 300 ?_
  conv => whnf
  repeat' first
    | (refine (?_ : am_wp _ _ _ _ _ _ _ _ _ _ _ _); conv => whnf)
    | (refine (?_ : am_sw _ _ _ _); conv => whnf)
    | refine And.intro trivial ?_
    | exact trivial
    | (refine x_alone0 _ _ ci cj hij i0 i4 j0 j4 (fun μ1 f1 e1 n1 r0 r1 => ?_); obtain ⟨hf, hs⟩ := fp_ah_f0 hw i0 i1 j0 j1 e1 r0 r1 n1)
    | (refine x_draw_15 hf hs (fun μ2 f2 d0 dr => ?_); have hn : μ2 29 0 = 2 := d0.trans n1; have h15 : μ2 15 4 = 2 := (f2 15 4 (by omega) (by omega)).trans n1; have fr : (∀ a b, ¬(15 ≤ a ∧ a < 22) → ¬(30 ≤ a ∧ a ≤ 32) → ¬(a = 29 ∧ b = 0) → μ2 a b = ν a b) := fun a b q1 q2 q3 => (f2 a b q2 q3).trans (f1 a b q1))
    | refine lp28' _ _ _ _ ?_ ?_ ?_ ?_ ?_ ?_ ?_
    | refine And.intro (fun h => absurd h (by decide)) (fun _ => ?_)
    | refine And.intro (fun _ => ?_) (fun h => absurd (by decide) h)
    | refine And.intro (fun _ => ?_) (fun _ => ?_)
    | refine And.intro ?_ ?_
  all_goals (first | decide | assumption | omega | rfl | exact fr | exact h15 | exact hn | (trace_state; fail))
theorem s_carry1 {l : Launch} {ν : am_N} {Q : Option am_V → am_N → Prop} (i j s : Int) (F : am_N) (B : Nat → Int) (ci : am_c i = i) (cj : am_c j = j) (eF : fv ν 1 = F) (hw : fp_fw 999 F) (hij : j < i) (i0 : 0 ≤ i) (i1 : i < ν 1 4) (j0 : 0 ≤ j) (j1 : j < ν 1 4) (n0 : 0 ≤ ν 48 1) (n6 : ν 48 1 ≤ 6) (e49 : ∀ b : Nat, (b : Int) < ν 48 1 → ν 49 b = B b) (hB : ∀ b : Nat, (b : Int) < ν 48 1 → 1 ≤ B b ∧ B b ≤ 9) (s0 : 0 ≤ s) (s1 : s ≤ 63) (k : ∀ μ' : am_N, (∀ a b, ¬(15 ≤ a ∧ a < 22) → ¬(30 ≤ a ∧ a ≤ 32) → ¬(a = 29 ∧ b = 0) → μ' a b = ν a b) → μ' 15 4 = 2 → μ' 29 0 = 2 → Q (some (.inl (fp_bv F i.toNat j.toNat B (ν 48 1).toNat s))) μ') : am_Does l 131 [.inr (.inr 0), .inl i, .inl j, .inl s] ν Q := by
  refine am_Does_of (Nat.le_of_ble_eq_true rfl) (Nat.le_of_ble_eq_true rfl) (Nat.le_of_ble_eq_true rfl) ?_
  have l0 : am_c 0 = 0 := rfl
  have l1 : am_c 1 = 1 := rfl
  have l2 : am_c 2 = 2 := rfl
  have l8 : am_c 8 = 8 := rfl
  subst eF
  obtain ⟨hf1, -, -, -, -, -, hx⟩ := fw_C hw (by decide)
  have n14 := hf1.1
  have i4 : i < 4 := by omega
  have j4 : j < 4 := by omega
  have ei : (am_c i).toNat = i.toNat := by rw [ci]
  have ej : (am_c j).toNat = j.toNat := by rw [cj]
  have c48 : am_c (ν 48 1) = ν 48 1 := am_cR (by omega) (by omega)
  have lp28 : ∀ (m : Nat) (x y c : Int) (μ : am_N) , (∀ a b, ¬(15 ≤ a ∧ a < 22) → ¬(30 ≤ a ∧ a ≤ 32) → ¬(a = 29 ∧ b = 0) → μ a b = ν a b) → μ 15 4 = 2 → μ 29 0 = 2 → 0 ≤ c → c ≤ ν 48 1 → x = fp_mb B s c.toNat → y = fp_mb B s c.toNat + fp_yb B s c.toNat → ν 48 1 - c < (m : Int) → am_AW l 0 (fun _ => 0) 131 Q 28 [some (.inr (.inr 0)), some (.inl i), some (.inl j), some (.inl s), some (.inl 1), some (.inl x), some (.inl y), some (.inl c)] [] μ := by
    intro m
    induction m with
    | zero =>
      intro x y c μ hv0 hv1 hv2 hv3 hv4 hv5 hv6 hm
      exfalso
      omega
    | succ m ih =>
      intro x y c μ hv0 hv1 hv2 hv3 hv4 hv5 hv6 hm
      have cc : am_c c = c := am_cR (by omega) (by omega)
      have ec : ((c.toNat : Nat) : Int) = c := Int.toNat_of_nonneg hv3
      have e48 : μ 48 1 = ν 48 1 := hv0 48 1 (by omega) (by omega) (by omega)
      have e49' : ∀ b, μ 49 b = ν 49 b := fun b => hv0 49 b (by omega) (by omega) (by omega)
      have e14 : μ 1 4 = ν 1 4 := hv0 1 4 (by omega) (by omega) (by omega)
      have bt := fun z : c < ν 48 1 => fp_bg (b := c) s0 s1 hv3 (by omega)
      have ca := fun z : c < ν 48 1 => (show am_c (am_and (am_shr s c) 1) = am_and (am_shr s c) 1 by rcases bt z with h | h <;> rw [h] <;> rfl)
      have xb := fp_mb_b s hB c.toNat (by omega)
      obtain ⟨g1, g2⟩ := am_fC_ch (c := 1) (fun a b q1 q2 => hv0 a b (by omega) (by omega) (by omega))
      have gf := g1 hf1
      have ti := am_TC_b (i := i.toNat) hf1 (by omega)
      have tj := am_TC_b (i := j.toNat) hf1 (by omega)
      have spi := (hx i.toNat (by omega)).2.2.2
      have spj := (hx j.toNat (by omega)).2.2.2
      have eSi : μ 5 i.toNat = ν 5 i.toNat := hv0 5 _ (by omega) (by omega) (by omega)
      have eSj : μ 5 j.toNat = ν 5 j.toNat := hv0 5 _ (by omega) (by omega) (by omega)
      have vT := fv_T (μ := ν) (c := 1) (i := i.toNat) (by omega)
      have vU := fv_T (μ := ν) (c := 1) (i := j.toNat) (by omega)
      have vS : fv ν 1 4 i.toNat = ν 5 i.toNat := fv_a (by decide) (by decide) (by omega)
      have vR : fv ν 1 4 j.toNat = ν 5 j.toNat := fv_a (by decide) (by decide) (by omega)
      refine am_go (ct := fun pc => Nat.beq pc 28) am_oX6_carrying 300 ?_
      conv => whnf
      repeat' first
        | (refine (?_ : am_wp _ _ _ _ _ _ _ _ _ _ _ _); conv => whnf)
        | (refine (?_ : am_sw _ _ _ _); conv => whnf)
        | refine And.intro trivial ?_
        | exact trivial
        | (have hc : c < ν 48 1 := (by (simp only [cc, e48, c48] at *; first | done | omega)); (first | have ca := ca hc | skip); (first | have bt := bt hc | skip); refine x_at_48 c hv3 (by rw [e48]; exact hc) (by rw [e48]; omega) ?_; rw [e49', e49 c.toNat (by omega)])
        | (have hc : c = ν 48 1 := (by (simp only [cc, e48, c48] at *; first | done | omega)); refine x_tenths_1 i i0 (by rw [e14]; exact i1) gf ?_; rw [g2])
        | (rw [ei, eSi]; have t0 : 1 ≤ am_TC ν 1 i.toNat + 2 * x := (by omega); have t1 : am_TC ν 1 i.toNat + 2 * x ≤ 100000 := (by omega); refine x_put 1 (am_TC ν 1 i.toNat + 2 * x) (ν 5 i.toNat) (by decide) (by decide) t0 t1 spi.1 spi.2 (fun μ3 y1 y2 y3 y4 => ?_); have f3 : ∀ a b, a < 30 → μ3 a b = μ a b := (fun a b z => y1 a b (by omega)); obtain ⟨g3, g4⟩ := am_fC_ch (c := 1) (fun a b q1 q2 => f3 a b (by omega)))
        | (refine x_tenths_1 j j0 (by rw [f3 1 4 (by omega), e14]; exact j1) (g3 gf) ?_; rw [g4, g2])
        | (rw [ej, f3 5 _ (by omega), eSj]; have u0 : 1 ≤ am_TC ν 1 j.toNat + 2 * (y - x) := (by omega); have u1 : am_TC ν 1 j.toNat + 2 * (y - x) ≤ 100000 := (by omega); refine x_put 0 (am_TC ν 1 j.toNat + 2 * (y - x)) (ν 5 j.toNat) (by decide) (by decide) u0 u1 spj.1 spj.2 (fun μ4 z1 z2 z3 z4 => ?_); have a0 : μ4 30 1 = fp_pt (am_TC ν 1 i.toNat + 2 * x) (ν 5 i.toNat) 0 := (z1 30 1 (by decide)).trans y2; have a1 : μ4 31 1 = am_TC ν 1 i.toNat + 2 * x := (z1 31 1 (by decide)).trans y3; have a2 : μ4 32 1 = am_TC ν 1 i.toNat + 2 * x + ν 5 i.toNat := (z1 32 1 (by decide)).trans y4; have b0 : μ4 30 0 = fp_pt (am_TC ν 1 j.toNat + 2 * (y - x)) (ν 5 j.toNat) 0 := z2; have b1 : μ4 31 0 = am_TC ν 1 j.toNat + 2 * (y - x) := z3; have b2 : μ4 32 0 = am_TC ν 1 j.toNat + 2 * (y - x) + ν 5 j.toNat := z4; have f4 : ∀ a b, ¬(30 ≤ a ∧ a ≤ 32) → μ4 a b = μ a b := (fun a b z => (z1 a b (by omega)).trans (y1 a b (by omega))); have m29 : μ4 29 0 = 2 := (f4 29 0 (by omega)).trans hv2; have m15 : μ4 15 4 = 2 := (f4 15 4 (by omega)).trans hv1; have fr : (∀ a b, ¬(15 ≤ a ∧ a < 22) → ¬(30 ≤ a ∧ a ≤ 32) → ¬(a = 29 ∧ b = 0) → μ4 a b = ν a b) := (fun a b q1 q2 q3 => (f4 a b q2).trans (hv0 a b q1 q2 q3)); have hb := fp_cr_b m29 u0 u1 spj.1 spj.2 t0 t1 spi.1 spi.2 b0 b1 b2 a0 a1 a2; have ez := fp_cr_1 m29 a0 a1 a2 b0 b1 b2; have yx : y - x = fp_yb B s c.toNat := (by omega); rw [yx, hv5, vT, vU, ← vS, ← vR, hc] at ez)
        | (refine x_ways 1 (by decide) (by rw [m29]; decide) (by rw [m29]; decide) hb ?_)
        | (refine am_qe (k μ4 fr m15 m29) (ez.trans ?_); unfold fp_bv; rw [if_neg (by omega)])
        | (refine x_alone1 _ _ ci cj hij i0 i4 j0 j4 (fun μ1 f1 e1 n1 r0 r1 => ?_); obtain ⟨hf, hs⟩ := fp_ah_f1 hw i0 i1 j0 j1 e1 r0 r1 n1)
        | (refine x_draw_15 hf hs (fun μ2 f2 d0 dr => ?_); have hn : μ2 29 0 = 2 := d0.trans n1; have h15 : μ2 15 4 = 2 := (f2 15 4 (by omega) (by omega)).trans n1; have fr : (∀ a b, ¬(15 ≤ a ∧ a < 22) → ¬(30 ≤ a ∧ a ≤ 32) → ¬(a = 29 ∧ b = 0) → μ2 a b = ν a b) := fun a b q1 q2 q3 => (f2 a b q2 q3).trans (f1 a b q1))
        | refine ih _ _ _ _ ?_ ?_ ?_ ?_ ?_ ?_ ?_ ?_
        | refine And.intro (fun h => absurd h (by decide)) (fun _ => ?_)
        | refine And.intro (fun _ => ?_) (fun h => absurd (by decide) h)
        | refine And.intro (fun _ => ?_) (fun _ => ?_)
        | refine And.intro ?_ ?_
      all_goals (first | decide | assumption | omega | (rw [ei]; omega) | (rw [ej]; omega) | (rw [ci]; omega) | (rw [cj]; omega) | (rw [show (c + 1).toNat = c.toNat + 1 by omega]; simp only [fp_mb, fp_yb]; rw [ec]; first | (rw [if_pos (by (simp only [ca, l0] at *; first | done | omega))]; omega) | (rw [if_neg (by (simp only [ca, l0] at *; first | done | omega))]; omega) | (rw [if_pos (by (simp only [ca, l0] at *; first | done | omega)), if_pos (by (simp only [ca, l0] at *; first | done | omega))]; omega) | (rw [if_neg (by (simp only [ca, l0] at *; first | done | omega)), if_neg (by (simp only [ca, l0] at *; first | done | omega))]; omega)) | (trace_state; fail))
  have lp28' : ∀ (x y c : Int) (μ : am_N) , (∀ a b, ¬(15 ≤ a ∧ a < 22) → ¬(30 ≤ a ∧ a ≤ 32) → ¬(a = 29 ∧ b = 0) → μ a b = ν a b) → μ 15 4 = 2 → μ 29 0 = 2 → 0 ≤ c → c ≤ ν 48 1 → x = fp_mb B s c.toNat → y = fp_mb B s c.toNat + fp_yb B s c.toNat → am_AW l 0 (fun _ => 0) 131 Q 28 [some (.inr (.inr 0)), some (.inl i), some (.inl j), some (.inl s), some (.inl 1), some (.inl x), some (.inl y), some (.inl c)] [] μ := fun x y c μ hv0 hv1 hv2 hv3 hv4 hv5 hv6 => lp28 ((ν 48 1 - c) + 1).toNat x y c μ hv0 hv1 hv2 hv3 hv4 hv5 hv6 (by omega)
  refine am_go (ct := fun pc => Nat.beq pc 28) am_oX6_carrying 300 ?_
  conv => whnf
  repeat' first
    | (refine (?_ : am_wp _ _ _ _ _ _ _ _ _ _ _ _); conv => whnf)
    | (refine (?_ : am_sw _ _ _ _); conv => whnf)
    | refine And.intro trivial ?_
    | exact trivial
    | (refine x_alone1 _ _ ci cj hij i0 i4 j0 j4 (fun μ1 f1 e1 n1 r0 r1 => ?_); obtain ⟨hf, hs⟩ := fp_ah_f1 hw i0 i1 j0 j1 e1 r0 r1 n1)
    | (refine x_draw_15 hf hs (fun μ2 f2 d0 dr => ?_); have hn : μ2 29 0 = 2 := d0.trans n1; have h15 : μ2 15 4 = 2 := (f2 15 4 (by omega) (by omega)).trans n1; have fr : (∀ a b, ¬(15 ≤ a ∧ a < 22) → ¬(30 ≤ a ∧ a ≤ 32) → ¬(a = 29 ∧ b = 0) → μ2 a b = ν a b) := fun a b q1 q2 q3 => (f2 a b q2 q3).trans (f1 a b q1))
    | refine lp28' _ _ _ _ ?_ ?_ ?_ ?_ ?_ ?_ ?_
    | refine And.intro (fun h => absurd h (by decide)) (fun _ => ?_)
    | refine And.intro (fun _ => ?_) (fun h => absurd (by decide) h)
    | refine And.intro (fun _ => ?_) (fun _ => ?_)
    | refine And.intro ?_ ?_
  all_goals (first | decide | assumption | omega | rfl | exact fr | exact h15 | exact hn | (trace_state; fail))
theorem s_carry {l : Launch} {ν : am_N} {Q : Option am_V → am_N → Prop} (i j s : Int) (F : am_N) (B : Nat → Int) (ci : am_c i = i) (cj : am_c j = j) (eF : fv ν 1 = F) (hw : fp_fw 999 F) (hij : i ≠ j) (i0 : 0 ≤ i) (i1 : i < ν 1 4) (j0 : 0 ≤ j) (j1 : j < ν 1 4) (n0 : 0 ≤ ν 48 1) (n6 : ν 48 1 ≤ 6) (e49 : ∀ b : Nat, (b : Int) < ν 48 1 → ν 49 b = B b) (hB : ∀ b : Nat, (b : Int) < ν 48 1 → 1 ≤ B b ∧ B b ≤ 9) (s0 : 0 ≤ s) (s1 : s ≤ 63) (k : ∀ μ' : am_N, (∀ a b, ¬(15 ≤ a ∧ a < 22) → ¬(30 ≤ a ∧ a ≤ 32) → ¬(a = 29 ∧ b = 0) → μ' a b = ν a b) → μ' 15 4 = 2 → μ' 29 0 = 2 → Q (some (.inl (fp_bv F i.toNat j.toNat B (ν 48 1).toNat s))) μ') : am_Does l 131 [.inr (.inr 0), .inl i, .inl j, .inl s] ν Q := by
  rcases (show i < j ∨ j < i by omega) with h | h
  · exact s_carry0 i j s F B ci cj eF hw h i0 i1 j0 j1 n0 n6 e49 hB s0 s1 k
  · exact s_carry1 i j s F B ci cj eF hw h i0 i1 j0 j1 n0 n6 e49 hB s0 s1 k
theorem s_bags {l : Launch} {ν : am_N} {Q : Option am_V → am_N → Prop} (i j w : Int) (ci : am_c i = i) (cj : am_c j = j) (cw : am_c w = w) (hS : sx ν ν) (hw : fp_fw 999 (fv ν 1)) (n0 : 0 ≤ ν 48 1) (n6 : ν 48 1 ≤ 6) (hr : ∀ b : Nat, (b : Int) < ν 48 1 → 1 ≤ ν 49 b ∧ ν 49 b ≤ 9) (k : ∀ μ' : am_N, sx ν μ' → Q (some (.inl (fp_bgr (fv ν 1) (fp_rt (ν 48 1) (ν 49)) (ν 48 1) i j w))) μ') : am_Does l 93 [.inr (.inr 0), .inl i, .inl j, .inl w] ν Q := by
  refine am_Does_of (Nat.le_of_ble_eq_true rfl) (Nat.le_of_ble_eq_true rfl) (Nat.le_of_ble_eq_true rfl) ?_
  have l0 : am_c 0 = 0 := rfl
  have l1 : am_c 1 = 1 := rfl
  have l2 : am_c 2 = 2 := rfl
  have l8 : am_c 8 = 8 := rfl
  have m1' : am_c (-1) = -1 := rfl
  have m2' : am_c (-2) = -2 := rfl
  have m3' : am_c (-3) = -3 := rfl
  obtain ⟨hf1, -, -, -, -, -, -⟩ := fw_C hw (by decide)
  have f0 := hf1.1.1
  have f1 := hf1.1.2
  have e4 : fv ν 1 0 4 = ν 1 4 := fv_0 (by decide)
  have nb := fp_sh_b n0 n6
  have cN : am_c (am_shl 1 (ν 48 1)) = (am_shl 1 (ν 48 1)) := am_cR (by omega) (by omega)
  have hB : ∀ b : Nat, (b : Int) < ν 48 1 → 1 ≤ (fp_rt (ν 48 1) (ν 49)) b ∧ (fp_rt (ν 48 1) (ν 49)) b ≤ 9 := fun b hb => by rw [fp_rt_i hb]; exact hr b hb
  have kk := fun (x : Int) (μ' : am_N) (h : sx ν μ') (e : x = fp_bgr (fv ν 1) (fp_rt (ν 48 1) (ν 49)) (ν 48 1) i j w) => am_qe (k μ' h) e
  have lp39 : ∀ (m : Nat) (t y s : Int) (o7 : Option am_V) (μ : am_N) , (∀ a b, ¬(15 ≤ a ∧ a < 22) → ¬(30 ≤ a ∧ a ≤ 32) → ¬(a = 29 ∧ b = 0) → μ a b = ν a b) → 0 ≤ s → s ≤ (am_shl 1 (ν 48 1)) → (0 ≤ μ 15 4 ∧ μ 15 4 ≤ 4) → (0 ≤ μ 29 0 ∧ μ 29 0 ≤ 4) → (s = 0 ∧ t = 0 ∧ y = 17) ∨ (1 ≤ s ∧ t = ((fq_m (fp_bf (fv ν 1) i.toNat j.toNat (fp_rt (ν 48 1) (ν 49)) (ν 48 1).toNat) (s.toNat - 1) : Nat) : Int) ∧ y = (fp_bf (fv ν 1) i.toNat j.toNat (fp_rt (ν 48 1) (ν 49)) (ν 48 1).toNat) (fq_m (fp_bf (fv ν 1) i.toNat j.toNat (fp_rt (ν 48 1) (ν 49)) (ν 48 1).toNat) (s.toNat - 1))) → (0 ≤ i ∧ i < ν 1 4) → (0 ≤ j ∧ j < ν 1 4) → i ≠ j → (w = 0 ∨ w = 1) → (am_shl 1 (ν 48 1)) - s < (m : Int) → am_AW l 0 (fun _ => 0) 93 Q 39 [some (.inr (.inr 0)), some (.inl i), some (.inl j), some (.inl w), some (.inl t), some (.inl y), some (.inl s), o7] [] μ := by
    intro m
    induction m with
    | zero =>
      intro t y s o7 μ hv0 hv1 hv2 hv3 hv4 hv5 hv6 hv7 hv8 hv9 hm
      exfalso
      omega
    | succ m ih =>
      intro t y s o7 μ hv0 hv1 hv2 hv3 hv4 hv5 hv6 hv7 hv8 hv9 hm
      have cs : am_c s = s := am_cR (by omega) (by omega)
      have sE : sx ν μ := sx_ad hS (fun a b q1 q2 q3 _ => hv0 a b q1 q2 q3) hv3 hv4
      have e48 : μ 48 1 = ν 48 1 := hv0 48 1 (by omega) (by omega) (by omega)
      have e49' : ∀ b, μ 49 b = ν 49 b := fun b => hv0 49 b (by omega) (by omega) (by omega)
      have e14 : μ 1 4 = ν 1 4 := hv0 1 4 (by omega) (by omega) (by omega)
      have eF : fv μ 1 = (fv ν 1) := fv_keep (fun a b q1 q2 => hv0 a b (by omega) (by omega) (by omega))
      have e49 : ∀ b : Nat, (b : Int) < μ 48 1 → μ 49 b = (fp_rt (ν 48 1) (ν 49)) b := fun b hb => by rw [e48] at hb; rw [fp_rt_i hb, e49']
      have wb := fp_bv_b (fv ν 1) i.toNat j.toNat (fp_rt (ν 48 1) (ν 49)) (ν 48 1).toNat s
      have cw8 : am_c ((fp_bv (fv ν 1) i.toNat j.toNat (fp_rt (ν 48 1) (ν 49)) (ν 48 1).toNat s) - 8) = (fp_bv (fv ν 1) i.toNat j.toNat (fp_rt (ν 48 1) (ν 49)) (ν 48 1).toNat s) - 8 := am_cR (by omega) (by omega)
      have yb : 0 ≤ y ∧ y ≤ 17 := by rcases hv5 with z | z; (omega); (have x := fp_bf_b (fv ν 1) i.toNat j.toNat (fp_rt (ν 48 1) (ν 49)) (ν 48 1).toNat (fq_m (fp_bf (fv ν 1) i.toNat j.toNat (fp_rt (ν 48 1) (ν 49)) (ν 48 1).toNat) (s.toNat - 1)); omega)
      have cy : am_c y = y := am_cR (by omega) (by omega)
      have ee : (fp_bf (fv ν 1) i.toNat j.toNat (fp_rt (ν 48 1) (ν 49)) (ν 48 1).toNat) s.toNat = (if 0 ≤ (fp_bv (fv ν 1) i.toNat j.toNat (fp_rt (ν 48 1) (ν 49)) (ν 48 1).toNat s) - 8 then (fp_bv (fv ν 1) i.toNat j.toNat (fp_rt (ν 48 1) (ν 49)) (ν 48 1).toNat s) - 8 else 0 - ((fp_bv (fv ν 1) i.toNat j.toNat (fp_rt (ν 48 1) (ν 49)) (ν 48 1).toNat s) - 8)) := by unfold fp_bf; rw [Int.toNat_of_nonneg hv1]
      have eb := fp_bf_b (fv ν 1) i.toNat j.toNat (fp_rt (ν 48 1) (ν 49)) (ν 48 1).toNat s.toNat
      have ce : am_c ((fp_bf (fv ν 1) i.toNat j.toNat (fp_rt (ν 48 1) (ν 49)) (ν 48 1).toNat) s.toNat) = (fp_bf (fv ν 1) i.toNat j.toNat (fp_rt (ν 48 1) (ν 49)) (ν 48 1).toNat) s.toNat := am_cR (by omega) (by omega)
      have e2 : (if 0 ≤ am_c ((fp_bv (fv ν 1) i.toNat j.toNat (fp_rt (ν 48 1) (ν 49)) (ν 48 1).toNat s) - 8) then (fp_bv (fv ν 1) i.toNat j.toNat (fp_rt (ν 48 1) (ν 49)) (ν 48 1).toNat s) - 8 else 0 - ((fp_bv (fv ν 1) i.toNat j.toNat (fp_rt (ν 48 1) (ν 49)) (ν 48 1).toNat s) - 8)) = (fp_bf (fv ν 1) i.toNat j.toNat (fp_rt (ν 48 1) (ν 49)) (ν 48 1).toNat) s.toNat := by rw [cw8]; exact ee.symm
      refine am_go (ct := fun pc => Nat.beq pc 39) am_oX6_bags 300 ?_
      conv => whnf
      repeat' first
        | (refine (?_ : am_wp _ _ _ _ _ _ _ _ _ _ _ _); conv => whnf)
        | (refine (?_ : am_sw _ _ _ _); conv => whnf)
        | refine And.intro trivial ?_
        | exact trivial
        | (have sN : s < (am_shl 1 (ν 48 1)) := (by (simp only [cs, e48, cN] at *; first | done | omega)); refine s_carry i j s (fv ν 1) (fp_rt (ν 48 1) (ν 49)) ci cj eF hw hv8 hv6.1 (by rw [e14]; exact hv6.2) hv7.1 (by rw [e14]; exact hv7.2) (by rw [e48]; exact n0) (by rw [e48]; exact n6) e49 (by rw [e48]; exact hB) hv1 (by omega) (fun μ2 f2 n15 n29 => ?_); rw [e48])
        | refine kk _ _ sE ?_
        | refine x_notTwo _ _ ci cj f0 f1 (fun y => ?_) (fun y0 y1 y2 => ?_)
        | refine x_refuse _ ?_ (fun μr fr => ?_)
        | refine x_noPart _ cw (fun z => ?_) (fun z => ?_)
        | refine kk _ _ (sx_78 hS fr) ?_
        | refine ih _ _ _ _ _ ?_ ?_ ?_ ?_ ?_ ?_ ?_ ?_ ?_ ?_ ?_
        | refine And.intro (fun h => absurd h (by decide)) (fun _ => ?_)
        | refine And.intro (fun _ => ?_) (fun h => absurd (by decide) h)
        | refine And.intro (fun _ => ?_) (fun _ => ?_)
        | refine And.intro ?_ ?_
      all_goals (first | decide | assumption | omega | (intro a b q1 q2 q3; exact (f2 a b q1 q2 q3).trans (hv0 a b q1 q2 q3)) | (rw [n15]; decide) | (rw [n29]; decide) | (refine Or.inr ⟨by omega, ?_⟩; rcases hv5 with ⟨z1, z2, z3⟩ | ⟨z1, z2, z3⟩; (subst z1; first | exact ⟨rfl, e2⟩ | (exfalso; (simp only [e2, ce, cy] at *; first | done | omega))); (rw [fq_m_s z1]; first | (rw [if_pos (by rw [← z3]; (simp only [e2, ce, cy] at *; first | done | omega))]; exact ⟨(Int.toNat_of_nonneg hv1).symm, e2⟩) | (rw [if_neg (by rw [← z3]; (simp only [e2, ce, cy] at *; first | done | omega))]; exact ⟨z2, z3⟩))) | (have x := hv5.resolve_left (by (simp only [cs, e48, cN] at *; first | done | omega)); have se : s.toNat - 1 = (am_shl 1 (ν 48 1)).toNat - 1 := (by (simp only [cs, e48, cN] at *; first | done | omega)); rw [se] at x; unfold fp_bgr fp_bgt; rw [e4, if_neg (by omega), if_neg (by omega)]; first | (rw [if_pos (by (simp only [cw, l0] at *; first | done | omega))]; exact x.2.1) | (rw [if_neg (by (simp only [cw, l0] at *; first | done | omega))]; exact x.2.2)) | (trace_state; fail))
  have lp39' : ∀ (t y s : Int) (o7 : Option am_V) (μ : am_N) , (∀ a b, ¬(15 ≤ a ∧ a < 22) → ¬(30 ≤ a ∧ a ≤ 32) → ¬(a = 29 ∧ b = 0) → μ a b = ν a b) → 0 ≤ s → s ≤ (am_shl 1 (ν 48 1)) → (0 ≤ μ 15 4 ∧ μ 15 4 ≤ 4) → (0 ≤ μ 29 0 ∧ μ 29 0 ≤ 4) → (s = 0 ∧ t = 0 ∧ y = 17) ∨ (1 ≤ s ∧ t = ((fq_m (fp_bf (fv ν 1) i.toNat j.toNat (fp_rt (ν 48 1) (ν 49)) (ν 48 1).toNat) (s.toNat - 1) : Nat) : Int) ∧ y = (fp_bf (fv ν 1) i.toNat j.toNat (fp_rt (ν 48 1) (ν 49)) (ν 48 1).toNat) (fq_m (fp_bf (fv ν 1) i.toNat j.toNat (fp_rt (ν 48 1) (ν 49)) (ν 48 1).toNat) (s.toNat - 1))) → (0 ≤ i ∧ i < ν 1 4) → (0 ≤ j ∧ j < ν 1 4) → i ≠ j → (w = 0 ∨ w = 1) → am_AW l 0 (fun _ => 0) 93 Q 39 [some (.inr (.inr 0)), some (.inl i), some (.inl j), some (.inl w), some (.inl t), some (.inl y), some (.inl s), o7] [] μ := fun t y s o7 μ hv0 hv1 hv2 hv3 hv4 hv5 hv6 hv7 hv8 hv9 => lp39 (((am_shl 1 (ν 48 1)) - s) + 1).toNat t y s o7 μ hv0 hv1 hv2 hv3 hv4 hv5 hv6 hv7 hv8 hv9 (by omega)
  refine am_go (ct := fun pc => Nat.beq pc 39) am_oX6_bags 300 ?_
  conv => whnf
  repeat' first
    | (refine (?_ : am_wp _ _ _ _ _ _ _ _ _ _ _ _); conv => whnf)
    | (refine (?_ : am_sw _ _ _ _); conv => whnf)
    | refine And.intro trivial ?_
    | exact trivial
    | refine x_notTwo _ _ ci cj f0 f1 (fun y => ?_) (fun y0 y1 y2 => ?_)
    | refine x_refuse _ ?_ (fun μr fr => ?_)
    | refine x_noPart _ cw (fun z => ?_) (fun z => ?_)
    | refine kk _ _ (sx_78 hS fr) ?_
    | refine lp39' _ _ _ _ _ ?_ ?_ ?_ ?_ ?_ ?_ ?_ ?_ ?_ ?_
    | refine And.intro (fun h => absurd h (by decide)) (fun _ => ?_)
    | refine And.intro (fun _ => ?_) (fun h => absurd (by decide) h)
    | refine And.intro (fun _ => ?_) (fun _ => ?_)
    | refine And.intro ?_ ?_
  all_goals (first | decide | assumption | omega | rfl | (intros; rfl) | exact hS.2.2.2.1.2.1 | exact hS.2.2.2.1.2.1.1 | exact hS.2.2.2.1.2.1.2 | exact hS.2.2.2.1.2.2.1 | exact hS.2.2.2.1.2.2.1.1 | exact hS.2.2.2.1.2.2.1.2 | exact Or.inl ⟨rfl, rfl, rfl⟩ | (unfold fp_bgr; rw [e4, if_pos (by omega)]) | (unfold fp_bgr; rw [e4, if_neg (by omega), if_pos (by omega)]) | (trace_state; fail))
theorem n_bagsFar {l : Launch} {ν : am_N} {Q : Option am_V → am_N → Prop} (i j s : Int) (B : Nat → Int) (hw : fp_fw 999 (mv ν)) (hi : 0 ≤ i ∧ i < ν 83 14) (hj : 0 ≤ j ∧ j < ν 83 14) (n0 : 0 ≤ ν 83 15) (n6 : ν 83 15 ≤ 6) (e91 : ∀ b : Nat, (b : Int) < ν 83 15 → ν 91 b = B b) (hB : ∀ b : Nat, (b : Int) < ν 83 15 → 1 ≤ B b ∧ B b ≤ 9) (s0 : 0 ≤ s) (s1 : s ≤ 63) (k : Q (some (.inl (fp_bf (mv ν) i.toNat j.toNat B (ν 83 15).toNat s.toNat))) ν) : am_Does l 215 [.inr (.inr 83), .inl i, .inl j, .inl s] ν Q := by
  refine am_Does_of (Nat.le_of_ble_eq_true rfl) (Nat.le_of_ble_eq_true rfl) (Nat.le_of_ble_eq_true rfl) ?_
  have l0 : am_c 0 = 0 := rfl
  have l1 : am_c 1 = 1 := rfl
  have l2 : am_c 2 = 2 := rfl
  have l8 : am_c 8 = 8 := rfl
  obtain ⟨hf1, -, -, -, -, -, hx⟩ := fw_M hw (by decide)
  have n14 := hf1.1
  have cn : am_c (ν 83 15) = ν 83 15 := am_cR (by omega) (by omega)
  have ti := am_TM_b (i := i.toNat) hf1 (by omega)
  have tj := am_TM_b (i := j.toNat) hf1 (by omega)
  have yi := (hx i.toNat (by omega)).2.2.2
  have yj := (hx j.toNat (by omega)).2.2.2
  have xN := fp_mb_b s hB (ν 83 15).toNat (by omega)
  have vT := mv_T (μ := ν) (i := i.toNat) (by omega)
  have vU := mv_T (μ := ν) (i := j.toNat) (by omega)
  have vS : mv ν 4 i.toNat = ν 88 i.toNat := mv_a (a := 3) (by decide) (by omega)
  have vR : mv ν 4 j.toNat = ν 88 j.toNat := mv_a (a := 3) (by decide) (by omega)
  have wb := fp_bv_b (mv ν) i.toNat j.toNat B (ν 83 15).toNat s
  have cw8 : am_c ((fp_bv (mv ν) i.toNat j.toNat B (ν 83 15).toNat s) - 8) = (fp_bv (mv ν) i.toNat j.toNat B (ν 83 15).toNat s) - 8 := am_cR (by omega) (by omega)
  have ee : fp_bf (mv ν) i.toNat j.toNat B (ν 83 15).toNat s.toNat = (if 0 ≤ (fp_bv (mv ν) i.toNat j.toNat B (ν 83 15).toNat s) - 8 then (fp_bv (mv ν) i.toNat j.toNat B (ν 83 15).toNat s) - 8 else 0 - ((fp_bv (mv ν) i.toNat j.toNat B (ν 83 15).toNat s) - 8)) := by unfold fp_bf; rw [Int.toNat_of_nonneg s0]
  have ev : fp_aw (if i.toNat < j.toNat then 0 else 1) (am_TM ν i.toNat + 2 * fp_mb B s (ν 83 15).toNat) (ν 88 i.toNat) (am_TM ν j.toNat + 2 * fp_yb B s (ν 83 15).toNat) (ν 88 j.toNat) = (fp_bv (mv ν) i.toNat j.toNat B (ν 83 15).toNat s) := by unfold fp_bv; rw [vT, vU, vS, vR]
  have lp9 : ∀ (m : Nat) (x y c : Int) , 0 ≤ c → c ≤ ν 83 15 → x = fp_mb B s c.toNat → y = fp_yb B s c.toNat → ν 83 15 - c < (m : Int) → am_AW l 0 (fun _ => 0) 215 Q 9 [some (.inr (.inr 83)), some (.inl i), some (.inl j), some (.inl s), some (.inl x), some (.inl y), some (.inl c)] [] ν := by
    intro m
    induction m with
    | zero =>
      intro x y c  hv0 hv1 hv2 hv3 hm
      exfalso
      omega
    | succ m ih =>
      intro x y c  hv0 hv1 hv2 hv3 hm
      have cc : am_c c = c := am_cR (by omega) (by omega)
      have ec : ((c.toNat : Nat) : Int) = c := Int.toNat_of_nonneg hv0
      have eic : (am_c c).toNat = c.toNat := by rw [cc]
      have bt := fun z : c < ν 83 15 => fp_bg (b := c) s0 s1 hv0 (by omega)
      have ca := fun z : c < ν 83 15 => (show am_c (am_and (am_shr s c) 1) = am_and (am_shr s c) 1 by rcases bt z with h | h <;> rw [h] <;> rfl)
      have e9 := fun z : c < ν 83 15 => e91 c.toNat (by omega)
      refine am_go (ct := fun pc => Nat.beq pc 9) am_oX7_bagsFar 300 ?_
      conv => whnf
      repeat' first
        | (refine (?_ : am_wp _ _ _ _ _ _ _ _ _ _ _ _); conv => whnf)
        | (refine (?_ : am_sw _ _ _ _); conv => whnf)
        | refine And.intro trivial ?_
        | exact trivial
        | (have hc : c = ν 83 15 := (by (simp only [cc, cn] at *; first | done | omega)); first | refine x_timeOf i hi.1 hi.2 hf1 ?_ | refine x_timeOf j hj.1 hj.2 hf1 ?_)
        | (rw [hv2, hv3, hc]; refine x_aheadBy i _ j _ hi.1 (by omega) hj.1 (by omega) (by omega) (by omega) (by omega) (by omega) yi yj ?_; rw [ev])
        | (refine am_qe k ?_)
        | refine ih _ _ _  ?_ ?_ ?_ ?_ ?_
        | refine And.intro (fun h => absurd h (by decide)) (fun _ => ?_)
        | refine And.intro (fun _ => ?_) (fun h => absurd (by decide) h)
        | refine And.intro (fun _ => ?_) (fun _ => ?_)
        | refine And.intro ?_ ?_
      all_goals (first | decide | assumption | omega | (rw [cc]; (simp only [cc, cn] at *; first | done | omega)) | (have hc : c < ν 83 15 := (by (simp only [cc, cn] at *; first | done | omega)); (first | have ca := ca hc | skip); (first | have bt := bt hc | skip); (first | have e9 := e9 hc | skip); rw [show (c + 1).toNat = c.toNat + 1 by omega]; simp only [fp_mb, fp_yb]; rw [ec]; simp only [eic, e9] at *; first | (rw [if_pos (by (simp only [ca, l1] at *; first | done | omega))]; omega) | (rw [if_neg (by (simp only [ca, l1] at *; first | done | omega))]; omega) | (exfalso; (simp only [ca, l1] at *; first | done | omega))) | (rw [ee]; first | (rw [if_pos (by (simp only [cw8, l0] at *; first | done | omega))]) | (rw [if_neg (by (simp only [cw8, l0] at *; first | done | omega))]; omega)) | (trace_state; fail))
  have lp9' : ∀ (x y c : Int) , 0 ≤ c → c ≤ ν 83 15 → x = fp_mb B s c.toNat → y = fp_yb B s c.toNat → am_AW l 0 (fun _ => 0) 215 Q 9 [some (.inr (.inr 83)), some (.inl i), some (.inl j), some (.inl s), some (.inl x), some (.inl y), some (.inl c)] [] ν := fun x y c  hv0 hv1 hv2 hv3 => lp9 ((ν 83 15 - c) + 1).toNat x y c  hv0 hv1 hv2 hv3 (by omega)
  refine am_go (ct := fun pc => Nat.beq pc 9) am_oX7_bagsFar 300 ?_
  conv => whnf
  repeat' first
    | (refine (?_ : am_wp _ _ _ _ _ _ _ _ _ _ _ _); conv => whnf)
    | (refine (?_ : am_sw _ _ _ _); conv => whnf)
    | refine And.intro trivial ?_
    | exact trivial
    | refine lp9' _ _ _  ?_ ?_ ?_ ?_
    | refine And.intro (fun h => absurd h (by decide)) (fun _ => ?_)
    | refine And.intro (fun _ => ?_) (fun h => absurd (by decide) h)
    | refine And.intro (fun _ => ?_) (fun _ => ?_)
    | refine And.intro ?_ ?_
  all_goals (first | decide | assumption | omega | rfl | (trace_state; fail))
theorem n_bags {l : Launch} {ν : am_N} {Q : Option am_V → am_N → Prop} (i j w : Int) (ci : am_c i = i) (cj : am_c j = j) (cw : am_c w = w) (hm : mi ν) (hw : fp_fw 999 (mv ν)) (n0 : 0 ≤ ν 83 15) (n6 : ν 83 15 ≤ 6) (hr : ∀ b : Nat, (b : Int) < ν 83 15 → 1 ≤ ν 91 b ∧ ν 91 b ≤ 9) (k : ∀ μ' : am_N, gm ms ν μ' → Q (some (.inl (fp_bgr (mv ν) (fp_rt (ν 83 15) (ν 91)) (ν 83 15) i j w))) μ') : am_Does l 216 [.inr (.inr 83), .inl i, .inl j, .inl w] ν Q := by
  refine am_Does_of (Nat.le_of_ble_eq_true rfl) (Nat.le_of_ble_eq_true rfl) (Nat.le_of_ble_eq_true rfl) ?_
  have l0 : am_c 0 = 0 := rfl
  have l1 : am_c 1 = 1 := rfl
  have l2 : am_c 2 = 2 := rfl
  have l8 : am_c 8 = 8 := rfl
  have m1' : am_c (-1) = -1 := rfl
  have m2' : am_c (-2) = -2 := rfl
  have m3' : am_c (-3) = -3 := rfl
  have hm0 := hm
  obtain ⟨hf1, -, -, -, -, -, -⟩ := fw_M hw (by decide)
  have f0 := hf1.1.1
  have f1 := hf1.1.2
  have e4 : mv ν 0 4 = ν 83 14 := rfl
  have nb := fp_sh_b n0 n6
  have cN : am_c (am_shl 1 (ν 83 15)) = (am_shl 1 (ν 83 15)) := am_cR (by omega) (by omega)
  have hB : ∀ b : Nat, (b : Int) < ν 83 15 → 1 ≤ (fp_rt (ν 83 15) (ν 91)) b ∧ (fp_rt (ν 83 15) (ν 91)) b ≤ 9 := fun b hb => by rw [fp_rt_i hb]; exact hr b hb
  have kk := fun (x : Int) (μ' : am_N) (h : gm ms ν μ') (e : x = fp_bgr (mv ν) (fp_rt (ν 83 15) (ν 91)) (ν 83 15) i j w) => am_qe (k μ' h) e
  have lp48 : ∀ (m : Nat) (t s : Int) , 1 ≤ s → s ≤ (am_shl 1 (ν 83 15)) → t = ((fq_m (fp_bf (mv ν) i.toNat j.toNat (fp_rt (ν 83 15) (ν 91)) (ν 83 15).toNat) (s.toNat - 1) : Nat) : Int) → (0 ≤ i ∧ i < ν 83 14) → (0 ≤ j ∧ j < ν 83 14) → i ≠ j → (w = 0 ∨ w = 1) → (am_shl 1 (ν 83 15)) - s < (m : Int) → am_AW l 0 (fun _ => 0) 216 Q 48 [some (.inr (.inr 83)), some (.inl i), some (.inl j), some (.inl w), some (.inl 0), some (.inl t), some (.inl s)] [] ν := by
    intro m
    induction m with
    | zero =>
      intro t s  hv0 hv1 hv2 hv3 hv4 hv5 hv6 hm
      exfalso
      omega
    | succ m ih =>
      intro t s  hv0 hv1 hv2 hv3 hv4 hv5 hv6 hm
      have cs : am_c s = s := am_cR (by omega) (by omega)
      have tl := fq_m_l (fp_bf (mv ν) i.toNat j.toNat (fp_rt (ν 83 15) (ν 91)) (ν 83 15).toNat) (s.toNat - 1)
      have ee : ((s.toNat : Nat) : Int) = s := Int.toNat_of_nonneg (by omega)
      have et : t.toNat = fq_m (fp_bf (mv ν) i.toNat j.toNat (fp_rt (ν 83 15) (ν 91)) (ν 83 15).toNat) (s.toNat - 1) := by omega
      have b1 := fp_bf_b (mv ν) i.toNat j.toNat (fp_rt (ν 83 15) (ν 91)) (ν 83 15).toNat s.toNat
      have b2 := fp_bf_b (mv ν) i.toNat j.toNat (fp_rt (ν 83 15) (ν 91)) (ν 83 15).toNat t.toNat
      have c1 : am_c ((fp_bf (mv ν) i.toNat j.toNat (fp_rt (ν 83 15) (ν 91)) (ν 83 15).toNat) s.toNat) = (fp_bf (mv ν) i.toNat j.toNat (fp_rt (ν 83 15) (ν 91)) (ν 83 15).toNat) s.toNat := am_cR (by omega) (by omega)
      have c2 : am_c ((fp_bf (mv ν) i.toNat j.toNat (fp_rt (ν 83 15) (ν 91)) (ν 83 15).toNat) t.toNat) = (fp_bf (mv ν) i.toNat j.toNat (fp_rt (ν 83 15) (ν 91)) (ν 83 15).toNat) t.toNat := am_cR (by omega) (by omega)
      refine am_go (ct := fun pc => Nat.beq pc 48) am_oX7_bags 300 ?_
      conv => whnf
      repeat' first
        | (refine (?_ : am_wp _ _ _ _ _ _ _ _ _ _ _ _); conv => whnf)
        | (refine (?_ : am_sw _ _ _ _); conv => whnf)
        | refine And.intro trivial ?_
        | exact trivial
        | (have sN : s < (am_shl 1 (ν 83 15)) := (by (simp only [cs, cN] at *; first | done | omega)); have s63 : s ≤ 63 := (by omega); first | (refine n_bagsFar i j s (fp_rt (ν 83 15) (ν 91)) hw hv3 hv4 n0 n6 (fun b hb => (fp_rt_i hb).symm) hB (by omega) (by omega) ?_) | (refine n_bagsFar i j t (fp_rt (ν 83 15) (ν 91)) hw hv3 hv4 n0 n6 (fun b hb => (fp_rt_i hb).symm) hB (by omega) (by omega) ?_))
        | (have se : s.toNat - 1 = (am_shl 1 (ν 83 15)).toNat - 1 := (by (simp only [cs, cN] at *; first | done | omega)); refine n_bagsFar i j t (fp_rt (ν 83 15) (ν 91)) hw hv3 hv4 n0 n6 (fun b hb => (fp_rt_i hb).symm) hB (by omega) (by omega) ?_)
        | (have se : s.toNat - 1 = (am_shl 1 (ν 83 15)).toNat - 1 := (by (simp only [cs, cN] at *; first | done | omega)); refine kk _ _ (gm_rf hm0) ?_)
        | refine x_areTwoT _ _ ci cj f0 f1 (fun y0 y1 y2 => ?_) (fun y => ?_)
        | refine x_isIn w _ _ _ rfl cw ?_ ?_ (fun _ _ => ?_) (fun _ => ?_)
        | refine x_no _ ?_ (fun μr fr => ?_)
        | refine And.intro (fun h => absurd h (by omega)) (fun _ => ?_)
        | refine And.intro (fun _ => ?_) (fun h => absurd h (by omega))
        | refine kk _ _ (mi_84 hm fr) ?_
        | refine ih _ _  ?_ ?_ ?_ ?_ ?_ ?_ ?_ ?_
        | refine And.intro (fun h => absurd h (by decide)) (fun _ => ?_)
        | refine And.intro (fun _ => ?_) (fun h => absurd (by decide) h)
        | refine And.intro (fun _ => ?_) (fun _ => ?_)
        | refine And.intro ?_ ?_
      all_goals (first | decide | assumption | omega | (rw [show s + 1 - 1 = s by omega]) | (show _ = ((fq_m _ ((s + 1).toNat - 1) : Nat) : Int); rw [fq_m_s hv0, ← et]; first | (rw [if_pos (by (simp only [c1, c2] at *; first | done | omega))]; exact ee.symm) | (rw [if_neg (by (simp only [c1, c2] at *; first | done | omega))]; omega)) | (unfold fp_bgr fp_bgt; rw [e4, if_neg (by omega), if_neg (by omega)]; first | (rw [if_pos (by (simp only [cw, l0] at *; first | done | omega)), hv2, se]) | (rw [if_neg (by (simp only [cw, l0] at *; first | done | omega)), et, se])) | (trace_state; fail))
  have lp48' : ∀ (t s : Int) , 1 ≤ s → s ≤ (am_shl 1 (ν 83 15)) → t = ((fq_m (fp_bf (mv ν) i.toNat j.toNat (fp_rt (ν 83 15) (ν 91)) (ν 83 15).toNat) (s.toNat - 1) : Nat) : Int) → (0 ≤ i ∧ i < ν 83 14) → (0 ≤ j ∧ j < ν 83 14) → i ≠ j → (w = 0 ∨ w = 1) → am_AW l 0 (fun _ => 0) 216 Q 48 [some (.inr (.inr 83)), some (.inl i), some (.inl j), some (.inl w), some (.inl 0), some (.inl t), some (.inl s)] [] ν := fun t s  hv0 hv1 hv2 hv3 hv4 hv5 hv6 => lp48 (((am_shl 1 (ν 83 15)) - s) + 1).toNat t s  hv0 hv1 hv2 hv3 hv4 hv5 hv6 (by omega)
  refine am_go (ct := fun pc => Nat.beq pc 48) am_oX7_bags 300 ?_
  conv => whnf
  repeat' first
    | (refine (?_ : am_wp _ _ _ _ _ _ _ _ _ _ _ _); conv => whnf)
    | (refine (?_ : am_sw _ _ _ _); conv => whnf)
    | refine And.intro trivial ?_
    | exact trivial
    | refine x_areTwoT _ _ ci cj f0 f1 (fun y0 y1 y2 => ?_) (fun y => ?_)
    | refine x_isIn w _ _ _ rfl cw ?_ ?_ (fun _ _ => ?_) (fun _ => ?_)
    | refine x_no _ ?_ (fun μr fr => ?_)
    | refine And.intro (fun h => absurd h (by omega)) (fun _ => ?_)
    | refine And.intro (fun _ => ?_) (fun h => absurd h (by omega))
    | refine kk _ _ (mi_84 hm fr) ?_
    | refine lp48' _ _  ?_ ?_ ?_ ?_ ?_ ?_ ?_
    | refine And.intro (fun h => absurd h (by decide)) (fun _ => ?_)
    | refine And.intro (fun _ => ?_) (fun h => absurd (by decide) h)
    | refine And.intro (fun _ => ?_) (fun _ => ?_)
    | refine And.intro ?_ ?_
  all_goals (first | decide | assumption | omega | rfl | (intros; rfl) | (unfold fp_bgr; rw [e4, if_pos (by omega)]) | (unfold fp_bgr; rw [e4, if_neg (by omega), if_pos (by omega)]) | (trace_state; fail))
