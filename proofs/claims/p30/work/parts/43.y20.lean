/-! the first of the least -/
def fq_m (f : Nat → Int) : Nat → Nat
  | 0 => 0
  | k + 1 => if f (k + 1) < f (fq_m f k) then k + 1 else fq_m f k
theorem fq_m_l (f : Nat → Int) : ∀ k : Nat, fq_m f k ≤ k := by
  intro k
  induction k with
  | zero => exact Nat.le_refl _
  | succ k ih =>
    simp only [fq_m]
    split <;> omega
/-- a step: s stands for s tries made -/
theorem fq_m_s {f : Nat → Int} {s : Int} (h : 1 ≤ s) : fq_m f ((s + 1).toNat - 1) = if f s.toNat < f (fq_m f (s.toNat - 1)) then s.toNat else fq_m f (s.toNat - 1) := by
  rw [show (s + 1).toNat - 1 = (s.toNat - 1) + 1 by omega]
  simp only [fq_m]
  rw [show s.toNat - 1 + 1 = s.toNat by omega]
/-- even(): how far from a half -/
def fp_ef (F : am_N) (i j v : Nat) : Int := if 0 ≤ fp_ah (fp_sd F j (v : Int)) i j - 8 then fp_ah (fp_sd F j (v : Int)) i j - 8 else 0 - (fp_ah (fp_sd F j (v : Int)) i j - 8)
theorem fp_ef_b (F : am_N) (i j v : Nat) : 0 ≤ fp_ef F i j v ∧ fp_ef F i j v ≤ 8 := by
  have h := fp_ah_b (fp_sd F j (v : Int)) i j
  unfold fp_ef
  split <;> omega
def fp_evr (F : am_N) (i j : Int) : Int := if ¬((0 ≤ i ∧ i < F 0 4) ∧ (0 ≤ j ∧ j < F 0 4) ∧ i ≠ j) then -1 else ((fq_m (fp_ef F i.toNat j.toNat) 99 : Nat) : Int)
/-- points of a league -/
def fp_lp (F : am_N) (i : Nat) : Nat → Int
  | 0 => 0
  | j + 1 => if j = i then fp_lp F i j else fp_lp F i j + fp_ah F i j
theorem fp_lp_b (F : am_N) (i : Nat) : ∀ m : Nat, 0 ≤ fp_lp F i m ∧ fp_lp F i m ≤ 16 * (m : Int) := by
  intro m
  induction m with
  | zero => exact ⟨(by first | exact Int.le_refl 0 | (show (0 : Int) ≤ 1; decide) | (show (0 : Int) ≤ _; decide) | (show _ ≤ (0 : Int); decide) | (show (1 : Int) ≤ _; decide) | (show (0 : Int) < _; decide)), (by first | exact Int.le_refl 0 | (show (0 : Int) ≤ 1; decide) | (show (0 : Int) ≤ _; decide) | (show _ ≤ (0 : Int); decide) | (show (1 : Int) ≤ _; decide) | (show (0 : Int) < _; decide))⟩
  | succ m ih =>
    have h := fp_ah_b F i m
    simp only [fp_lp]
    split <;> omega
def fp_lgr (F : am_N) (i w : Int) : Int := if ¬(0 ≤ i ∧ i < F 0 4) then 4000000000000000001 else if ¬(w = 0 ∨ w = 1) then 4000000000000000002 else fp_fr (fp_lp F i.toNat (F 0 4).toNat) 16 w
/-- ranks() -/
def fp_rkt (F : am_N) : Nat → Int := fun i => -(fp_lp F i (F 0 4).toNat)
def fp_rkr (F : am_N) : Int := am_dg (fun p => fp_od (fp_rkt F) (F 0 4) p) (F 0 4).toNat 0
theorem sx_rk {ν μ : am_N} (hS : sx ν ν) (f : ∀ a b, ¬(15 ≤ a ∧ a < 22) → ¬(30 ≤ a ∧ a ≤ 34) → ¬(a = 29 ∧ b = 0) → a ≠ 78 → μ a b = ν a b) (h15 : 0 ≤ μ 15 4 ∧ μ 15 4 ≤ 4) (h29 : 0 ≤ μ 29 0 ∧ μ 29 0 ≤ 4) (h34 : sx_3 μ 34) : sx ν μ := by
  refine ⟨fun a b ha => f a b (sx_p15 ha) (fun z => sx_p30 ha (by omega)) (fun z => sx_p30 ha (by omega)) (fun z => by rw [z] at ha; cases ha), h34, fun p hp => ?_, ⟨?_, h15, h29, ?_⟩, hS.2.2.2.2⟩
  · rw [f 43 p (by omega) (by omega) (by omega) (by omega)]; exact hS.2.2.1 p hp
  · rw [f 8 4 (by omega) (by omega) (by omega) (by omega)]; exact hS.2.2.2.1.1
  · rw [f 38 0 (by omega) (by omega) (by omega) (by omega)]; exact hS.2.2.2.1.2.2.2
/-- brackets -/
theorem fp_xrF : ∀ (i : Fin 4) (b : Fin 3), (0 ≤ am_xor ((i : Nat) : Int) (((b : Nat) : Int) + 1) ∧ am_xor ((i : Nat) : Int) (((b : Nat) : Int) + 1) < 4) ∧ am_xor ((i : Nat) : Int) (((b : Nat) : Int) + 1) ≠ ((i : Nat) : Int) := by decide +kernel
theorem fp_xr {i b : Int} (i0 : 0 ≤ i) (i1 : i < 4) (b0 : 0 ≤ b) (b1 : b ≤ 2) : (0 ≤ am_xor i (b + 1) ∧ am_xor i (b + 1) < 4) ∧ am_xor i (b + 1) ≠ i := by
  have h := fp_xrF ⟨i.toNat, by omega⟩ ⟨b.toNat, by omega⟩
  simp only [Int.toNat_of_nonneg i0, Int.toNat_of_nonneg b0] at h
  exact h
def fp_cs (F : am_N) (i b : Int) : Nat → Int
  | 0 => 0
  | j + 1 => if (j : Int) = i ∨ (j : Int) = am_xor i (b + 1) then fp_cs F i b j else fp_cs F i b j + fp_ah F j (am_xor j (b + 1)).toNat * fp_ah F i.toNat j
def fp_cw (F : am_N) (i b : Int) : Int := fp_ah F i.toNat (am_xor i (b + 1)).toNat * fp_cs F i b 4
theorem fp_cs_b (F : am_N) (i b : Int) : ∀ m : Nat, 0 ≤ fp_cs F i b m ∧ fp_cs F i b m ≤ 256 * (m : Int) := by
  intro m
  induction m with
  | zero => exact ⟨(by first | exact Int.le_refl 0 | (show (0 : Int) ≤ 1; decide) | (show (0 : Int) ≤ _; decide) | (show _ ≤ (0 : Int); decide) | (show (1 : Int) ≤ _; decide) | (show (0 : Int) < _; decide)), (by first | exact Int.le_refl 0 | (show (0 : Int) ≤ 1; decide) | (show (0 : Int) ≤ _; decide) | (show _ ≤ (0 : Int); decide) | (show (1 : Int) ≤ _; decide) | (show (0 : Int) < _; decide))⟩
  | succ m ih =>
    have h1 := fp_ah_b F m (am_xor m (b + 1)).toNat
    have h2 := fp_ah_b F i.toNat m
    have h := am_mulb h1.1 h1.2 h2.1 h2.2
    simp only [fp_cs]
    split <;> omega
theorem fp_cw_b (F : am_N) (i b : Int) : 0 ≤ fp_cw F i b ∧ fp_cw F i b ≤ 16384 := by
  have h1 := fp_ah_b F i.toNat (am_xor i (b + 1)).toNat
  have h2 := fp_cs_b F i b 4
  have h := am_mulb h1.1 h1.2 h2.1 (B := 1024) (by omega)
  unfold fp_cw
  omega
/-- the first of the most -/
def fq_x (f : Nat → Int) : Nat → Nat
  | 0 => 0
  | k + 1 => if f (fq_x f k) < f (k + 1) then k + 1 else fq_x f k
def fp_br (F : am_N) (i : Int) : Int := if ¬(0 ≤ i ∧ i < F 0 4) then -1 else if F 0 4 ≠ 4 then -3 else ((fq_x (fun b => fp_cw F i (b : Int)) 2 : Nat) : Int)
def fp_cpr (F : am_N) (i b w : Int) : Int := if ¬(0 ≤ i ∧ i < F 0 4) then 4000000000000000001 else if ¬((0 ≤ b ∧ b ≤ 2) ∧ (w = 0 ∨ w = 1)) then 4000000000000000002 else if F 0 4 ≠ 4 then 4000000000000000003 else fp_fr (fp_cw F i b) 4096 w
theorem s_even0 {l : Launch} {ν : am_N} {Q : Option am_V → am_N → Prop} (i j : Int) (ci : am_c i = i) (cj : am_c j = j) (hS : sx ν ν) (hw : fp_fw 999 (fv ν 1)) (hij : i < j) (i0 : 0 ≤ i) (i1 : i < ν 1 4) (j0 : 0 ≤ j) (j1 : j < ν 1 4) (k : ∀ μ' : am_N, sx ν μ' → Q (some (.inl ((fq_m (fp_ef (fv ν 1) i.toNat j.toNat) 99 : Nat) : Int))) μ') : am_Does l 73 [.inr (.inr 0), .inl i, .inl j] ν Q := by
  refine am_Does_of (Nat.le_of_ble_eq_true rfl) (Nat.le_of_ble_eq_true rfl) (Nat.le_of_ble_eq_true rfl) ?_
  have l0 : am_c 0 = 0 := rfl
  have l1 : am_c 1 = 1 := rfl
  have l2 : am_c 2 = 2 := rfl
  have l3 : am_c 3 = 3 := rfl
  have l4 : am_c 4 = 4 := rfl
  have l8 : am_c 8 = 8 := rfl
  have l16 : am_c 16 = 16 := rfl
  have l99 : am_c 99 = 99 := rfl
  have m1' : am_c (-1) = -1 := rfl
  have m2' : am_c (-2) = -2 := rfl
  have m3' : am_c (-3) = -3 := rfl
  have m9' : am_c (-9) = -9 := rfl
  obtain ⟨hf, -, -, -, -, -, hx⟩ := fw_C hw (by decide)
  have f0 := hf.1.1
  have f1 := hf.1.2
  have e4 : fv ν 1 0 4 = ν 1 4 := fv_0 (by decide)
  have cn : am_c (ν 1 4) = ν 1 4 := am_cR (by omega) (by omega)
  have i4 : i < 4 := by omega
  have j4 : j < 4 := by omega
  have ix : (am_c (1 - 0)).toNat = 1 := rfl
  have kk := fun (x : Int) (μ' : am_N) (h : sx ν μ') (e : x = ((fq_m (fp_ef (fv ν 1) i.toNat j.toNat) 99 : Nat) : Int)) => am_qe (k μ' h) e
  have lp32 : ∀ (m : Nat) (t y s : Int) (o7 : Option am_V) (μ : am_N) , (∀ a b, ¬(15 ≤ a ∧ a < 22) → ¬(30 ≤ a ∧ a ≤ 32) → ¬(a = 29 ∧ b = 0) → μ a b = ν a b) → 0 ≤ s → s ≤ 100 → (∀ b : Nat, b < 4 → μ 15 b = ν 1 b) → (∀ a : Nat, 0 < a → a < 7 → μ (15 + a) 0 = ν (1 + a) i.toNat) → (∀ a : Nat, 0 < a → a < 7 → a ≠ 5 → μ (15 + a) 1 = ν (1 + a) j.toNat) → μ 15 4 = 2 → (0 ≤ μ 29 0 ∧ μ 29 0 ≤ 4) → (s = 0 ∧ t = 0 ∧ y = 17) ∨ (1 ≤ s ∧ t = ((fq_m (fp_ef (fv ν 1) i.toNat j.toNat) (s.toNat - 1) : Nat) : Int) ∧ y = (fp_ef (fv ν 1) i.toNat j.toNat) (fq_m (fp_ef (fv ν 1) i.toNat j.toNat) (s.toNat - 1))) → 100 - s < (m : Int) → am_AW l 0 (fun _ => 0) 73 Q 32 [some (.inr (.inr 0)), some (.inl i), some (.inl j), some (.inl 0), some (.inl t), some (.inl y), some (.inl s), o7] [] μ := by
    intro m
    induction m with
    | zero =>
      intro t y s o7 μ hv0 hv1 hv2 hv3 hv4 hv5 hv6 hv7 hv8 hm
      exfalso
      omega
    | succ m ih =>
      intro t y s o7 μ hv0 hv1 hv2 hv3 hv4 hv5 hv6 hv7 hv8 hm
      have cs : am_c s = s := am_cR (by omega) (by omega)
      have sE : sx ν μ := sx_ad hS (fun a b q1 q2 q3 _ => hv0 a b q1 q2 q3) (by rw [hv6]; decide) hv7
      have fe : fv (am_up ν 6 j.toNat s) 1 = fp_sd (fv ν 1) j.toNat s := fv_up (c := 1) (a := 5) (by decide)
      have b1 : ∀ b : Nat, b < 4 → am_up μ 20 1 s 15 b = am_up ν 6 j.toNat s 1 b := fun b hb => (am_upN (by decide)).trans ((hv3 b hb).trans (am_upN (by decide)).symm)
      have r0 : ∀ a : Nat, 0 < a → a < 7 → am_up μ 20 1 s (15 + a) 0 = am_up ν 6 j.toNat s (1 + a) i.toNat := fun a q1 q2 => (am_uE (by omega)).trans ((hv4 a q1 q2).trans (am_uE (by omega)).symm)
      have r1 : ∀ a : Nat, 0 < a → a < 7 → am_up μ 20 1 s (15 + a) 1 = am_up ν 6 j.toNat s (1 + a) j.toNat := fun a q1 q2 => by by_cases d : a = 5; (subst d; rw [am_upS, if_pos ⟨rfl, rfl⟩, am_upS, if_pos ⟨rfl, rfl⟩]); (rw [am_uE (by omega), am_uE (by omega)]; exact hv5 a q1 q2 d)
      have n1 : am_up μ 20 1 s 15 4 = 2 := (am_upN (by decide)).trans hv6
      have nj : am_up ν 6 j.toNat s 1 4 = ν 1 4 := am_upN (by decide)
      have fr20 : ∀ a b, ¬(15 ≤ a ∧ a < 22) → am_up μ 20 1 s a b = μ a b := fun a b z => am_upN (by omega)
      have frk : ∀ a, am_up μ 20 1 s (15 + a) 0 = μ (15 + a) 0 := fun a => am_uE (by omega)
      have frn : ∀ a, a ≠ 5 → am_up μ 20 1 s (15 + a) 1 = μ (15 + a) 1 := fun a z => am_uE (by omega)
      have wb := fp_ah_b (fp_sd (fv ν 1) j.toNat s) i.toNat j.toNat
      have cw8 : am_c (fp_ah (fp_sd (fv ν 1) j.toNat s) i.toNat j.toNat - 8) = fp_ah (fp_sd (fv ν 1) j.toNat s) i.toNat j.toNat - 8 := am_cR (by omega) (by omega)
      have yb : 0 ≤ y ∧ y ≤ 17 := by rcases hv8 with z | z; (omega); (have x := fp_ef_b (fv ν 1) i.toNat j.toNat (fq_m (fp_ef (fv ν 1) i.toNat j.toNat) (s.toNat - 1)); omega)
      have cy : am_c y = y := am_cR (by omega) (by omega)
      have ee : (fp_ef (fv ν 1) i.toNat j.toNat) s.toNat = (if 0 ≤ fp_ah (fp_sd (fv ν 1) j.toNat s) i.toNat j.toNat - 8 then fp_ah (fp_sd (fv ν 1) j.toNat s) i.toNat j.toNat - 8 else 0 - (fp_ah (fp_sd (fv ν 1) j.toNat s) i.toNat j.toNat - 8)) := by unfold fp_ef; rw [Int.toNat_of_nonneg hv1]
      have eb := fp_ef_b (fv ν 1) i.toNat j.toNat s.toNat
      have ce : am_c ((fp_ef (fv ν 1) i.toNat j.toNat) s.toNat) = (fp_ef (fv ν 1) i.toNat j.toNat) s.toNat := am_cR (by omega) (by omega)
      have e2 : (if 0 ≤ am_c (fp_ah (fp_sd (fv ν 1) j.toNat s) i.toNat j.toNat - 8) then fp_ah (fp_sd (fv ν 1) j.toNat s) i.toNat j.toNat - 8 else 0 - (fp_ah (fp_sd (fv ν 1) j.toNat s) i.toNat j.toNat - 8)) = (fp_ef (fv ν 1) i.toNat j.toNat) s.toNat := by rw [cw8]; exact ee.symm
      refine am_go (ct := fun pc => Nat.beq pc 32) am_oX6_even 300 ?_
      conv => whnf
      repeat' first
        | (refine (?_ : am_wp _ _ _ _ _ _ _ _ _ _ _ _); conv => whnf)
        | (refine (?_ : am_sw _ _ _ _); conv => whnf)
        | refine And.intro trivial ?_
        | exact trivial
        | (have s9 : s ≤ 99 := (by rw [cs, l99] at *; omega); obtain ⟨hf, hs⟩ := fp_ah_f0 (by rw [fe]; exact fw_sd hw ⟨hv1, s9⟩) i0 (by rw [nj]; exact i1) j0 (by rw [nj]; exact j1) b1 r0 r1 n1; rw [ix]; refine x_draw_15 hf hs (fun μ2 f2 d0 dr => ?_); have hb := fp_rw_b (c := 15) hf hs d0 dr; have hn : μ2 29 0 = 2 := d0.trans n1; have hz := fp_ah_r0 hij i0 i4 j0 j4 b1 r0 r1 n1 d0 dr; rw [fe] at hz)
        | (refine x_ways 0 (by decide) (by rw [hn]; decide) (by rw [hn]; decide) hb ?_; rw [show fp_wy (μ2 30) (μ2 31) (μ2 32) (μ2 29 0).toNat (0 : Int).toNat = fp_ah (fp_sd (fv ν 1) j.toNat s) i.toNat j.toNat from hz])
        | refine kk _ _ sE ?_
        | refine x_notTwo _ _ ci cj f0 f1 (fun y => absurd y (by omega)) (fun y0 y1 y2 => ?_)
        | refine x_alone0 _ _ ci cj hij i0 i4 j0 j4 (fun μ1 g1 e1 n1 r0 r1 => ?_)
        | refine ih _ _ _ _ _ ?_ ?_ ?_ ?_ ?_ ?_ ?_ ?_ ?_ ?_
        | refine And.intro (fun h => absurd h (by decide)) (fun _ => ?_)
        | refine And.intro (fun _ => ?_) (fun h => absurd (by decide) h)
        | refine And.intro (fun _ => ?_) (fun _ => ?_)
        | refine And.intro ?_ ?_
      all_goals (first | decide | omega | (rw [hn]; decide) | (rw [ix]; decide) | (intro a b q1 q2 q3; exact (f2 a b q2 q3).trans ((fr20 a b q1).trans (hv0 a b q1 q2 q3))) | (intro b hb; rw [f2 15 b (by omega) (by omega), am_upN (by decide)]; exact hv3 b hb) | (intro a q1 q2; exact (f2 (15 + a) 0 (by omega) (by omega)).trans ((frk a).trans (hv4 a q1 q2))) | (intro a q1 q2 q3; exact (f2 (15 + a) 1 (by omega) (by omega)).trans ((frn a q3).trans (hv5 a q1 q2 q3))) | (rw [f2 15 4 (by omega) (by omega)]; exact n1) | (rw [hn]; decide) | (refine Or.inr ⟨by omega, ?_⟩; rcases hv8 with ⟨z1, z2, z3⟩ | ⟨z1, z2, z3⟩; (subst z1; first | exact ⟨rfl, e2⟩ | (exfalso; simp only [e2, ce, cy] at *; omega)); (rw [fq_m_s z1]; first | (rw [if_pos (by rw [← z3]; simp only [e2, ce, cy] at *; omega)]; exact ⟨(Int.toNat_of_nonneg hv1).symm, e2⟩) | (rw [if_neg (by rw [← z3]; simp only [e2, ce, cy] at *; omega)]; exact ⟨z2, z3⟩))) | (have x := hv8.resolve_left (by rw [cs, l99] at *; omega); rw [x.2.1, show s.toNat - 1 = 99 by rw [cs, l99] at *; omega]) | (trace_state; fail))
  have lp32' : ∀ (t y s : Int) (o7 : Option am_V) (μ : am_N) , (∀ a b, ¬(15 ≤ a ∧ a < 22) → ¬(30 ≤ a ∧ a ≤ 32) → ¬(a = 29 ∧ b = 0) → μ a b = ν a b) → 0 ≤ s → s ≤ 100 → (∀ b : Nat, b < 4 → μ 15 b = ν 1 b) → (∀ a : Nat, 0 < a → a < 7 → μ (15 + a) 0 = ν (1 + a) i.toNat) → (∀ a : Nat, 0 < a → a < 7 → a ≠ 5 → μ (15 + a) 1 = ν (1 + a) j.toNat) → μ 15 4 = 2 → (0 ≤ μ 29 0 ∧ μ 29 0 ≤ 4) → (s = 0 ∧ t = 0 ∧ y = 17) ∨ (1 ≤ s ∧ t = ((fq_m (fp_ef (fv ν 1) i.toNat j.toNat) (s.toNat - 1) : Nat) : Int) ∧ y = (fp_ef (fv ν 1) i.toNat j.toNat) (fq_m (fp_ef (fv ν 1) i.toNat j.toNat) (s.toNat - 1))) → am_AW l 0 (fun _ => 0) 73 Q 32 [some (.inr (.inr 0)), some (.inl i), some (.inl j), some (.inl 0), some (.inl t), some (.inl y), some (.inl s), o7] [] μ := fun t y s o7 μ hv0 hv1 hv2 hv3 hv4 hv5 hv6 hv7 hv8 => lp32 ((100 - s) + 1).toNat t y s o7 μ hv0 hv1 hv2 hv3 hv4 hv5 hv6 hv7 hv8 (by omega)
  refine am_go (ct := fun pc => Nat.beq pc 32) am_oX6_even 300 ?_
  conv => whnf
  repeat' first
    | (refine (?_ : am_wp _ _ _ _ _ _ _ _ _ _ _ _); conv => whnf)
    | (refine (?_ : am_sw _ _ _ _); conv => whnf)
    | refine And.intro trivial ?_
    | exact trivial
    | refine x_notTwo _ _ ci cj f0 f1 (fun y => absurd y (by omega)) (fun y0 y1 y2 => ?_)
    | refine x_alone0 _ _ ci cj hij i0 i4 j0 j4 (fun μ1 g1 e1 n1 r0 r1 => ?_)
    | refine lp32' _ _ _ _ _ ?_ ?_ ?_ ?_ ?_ ?_ ?_ ?_ ?_
    | refine And.intro (fun h => absurd h (by decide)) (fun _ => ?_)
    | refine And.intro (fun _ => ?_) (fun h => absurd (by decide) h)
    | refine And.intro (fun _ => ?_) (fun _ => ?_)
    | refine And.intro ?_ ?_
  all_goals (first | decide | assumption | omega | rfl | (intro a b q1 q2 q3; exact g1 a b q1) | (intro a q1 q2 q3; exact r0 a q1 q2) | (intro a q1 q2 q3; exact r1 a q1 q2) | exact r0 | exact r1 | exact e1 | (rw [g1 29 0 (by omega)]; first | exact hS.2.2.2.1.2.2.1 | exact hS.2.2.2.1.2.2.1.1 | exact hS.2.2.2.1.2.2.1.2) | exact Or.inl ⟨rfl, rfl, rfl⟩ | (trace_state; fail))
theorem s_even1 {l : Launch} {ν : am_N} {Q : Option am_V → am_N → Prop} (i j : Int) (ci : am_c i = i) (cj : am_c j = j) (hS : sx ν ν) (hw : fp_fw 999 (fv ν 1)) (hij : j < i) (i0 : 0 ≤ i) (i1 : i < ν 1 4) (j0 : 0 ≤ j) (j1 : j < ν 1 4) (k : ∀ μ' : am_N, sx ν μ' → Q (some (.inl ((fq_m (fp_ef (fv ν 1) i.toNat j.toNat) 99 : Nat) : Int))) μ') : am_Does l 73 [.inr (.inr 0), .inl i, .inl j] ν Q := by
  refine am_Does_of (Nat.le_of_ble_eq_true rfl) (Nat.le_of_ble_eq_true rfl) (Nat.le_of_ble_eq_true rfl) ?_
  have l0 : am_c 0 = 0 := rfl
  have l1 : am_c 1 = 1 := rfl
  have l2 : am_c 2 = 2 := rfl
  have l3 : am_c 3 = 3 := rfl
  have l4 : am_c 4 = 4 := rfl
  have l8 : am_c 8 = 8 := rfl
  have l16 : am_c 16 = 16 := rfl
  have l99 : am_c 99 = 99 := rfl
  have m1' : am_c (-1) = -1 := rfl
  have m2' : am_c (-2) = -2 := rfl
  have m3' : am_c (-3) = -3 := rfl
  have m9' : am_c (-9) = -9 := rfl
  obtain ⟨hf, -, -, -, -, -, hx⟩ := fw_C hw (by decide)
  have f0 := hf.1.1
  have f1 := hf.1.2
  have e4 : fv ν 1 0 4 = ν 1 4 := fv_0 (by decide)
  have cn : am_c (ν 1 4) = ν 1 4 := am_cR (by omega) (by omega)
  have i4 : i < 4 := by omega
  have j4 : j < 4 := by omega
  have ix : (am_c (1 - 1)).toNat = 0 := rfl
  have kk := fun (x : Int) (μ' : am_N) (h : sx ν μ') (e : x = ((fq_m (fp_ef (fv ν 1) i.toNat j.toNat) 99 : Nat) : Int)) => am_qe (k μ' h) e
  have lp32 : ∀ (m : Nat) (t y s : Int) (o7 : Option am_V) (μ : am_N) , (∀ a b, ¬(15 ≤ a ∧ a < 22) → ¬(30 ≤ a ∧ a ≤ 32) → ¬(a = 29 ∧ b = 0) → μ a b = ν a b) → 0 ≤ s → s ≤ 100 → (∀ b : Nat, b < 4 → μ 15 b = ν 1 b) → (∀ a : Nat, 0 < a → a < 7 → a ≠ 5 → μ (15 + a) 0 = ν (1 + a) j.toNat) → (∀ a : Nat, 0 < a → a < 7 → μ (15 + a) 1 = ν (1 + a) i.toNat) → μ 15 4 = 2 → (0 ≤ μ 29 0 ∧ μ 29 0 ≤ 4) → (s = 0 ∧ t = 0 ∧ y = 17) ∨ (1 ≤ s ∧ t = ((fq_m (fp_ef (fv ν 1) i.toNat j.toNat) (s.toNat - 1) : Nat) : Int) ∧ y = (fp_ef (fv ν 1) i.toNat j.toNat) (fq_m (fp_ef (fv ν 1) i.toNat j.toNat) (s.toNat - 1))) → 100 - s < (m : Int) → am_AW l 0 (fun _ => 0) 73 Q 32 [some (.inr (.inr 0)), some (.inl i), some (.inl j), some (.inl 1), some (.inl t), some (.inl y), some (.inl s), o7] [] μ := by
    intro m
    induction m with
    | zero =>
      intro t y s o7 μ hv0 hv1 hv2 hv3 hv4 hv5 hv6 hv7 hv8 hm
      exfalso
      omega
    | succ m ih =>
      intro t y s o7 μ hv0 hv1 hv2 hv3 hv4 hv5 hv6 hv7 hv8 hm
      have cs : am_c s = s := am_cR (by omega) (by omega)
      have sE : sx ν μ := sx_ad hS (fun a b q1 q2 q3 _ => hv0 a b q1 q2 q3) (by rw [hv6]; decide) hv7
      have fe : fv (am_up ν 6 j.toNat s) 1 = fp_sd (fv ν 1) j.toNat s := fv_up (c := 1) (a := 5) (by decide)
      have b1 : ∀ b : Nat, b < 4 → am_up μ 20 0 s 15 b = am_up ν 6 j.toNat s 1 b := fun b hb => (am_upN (by decide)).trans ((hv3 b hb).trans (am_upN (by decide)).symm)
      have r0 : ∀ a : Nat, 0 < a → a < 7 → am_up μ 20 0 s (15 + a) 0 = am_up ν 6 j.toNat s (1 + a) j.toNat := fun a q1 q2 => by by_cases d : a = 5; (subst d; rw [am_upS, if_pos ⟨rfl, rfl⟩, am_upS, if_pos ⟨rfl, rfl⟩]); (rw [am_uE (by omega), am_uE (by omega)]; exact hv4 a q1 q2 d)
      have r1 : ∀ a : Nat, 0 < a → a < 7 → am_up μ 20 0 s (15 + a) 1 = am_up ν 6 j.toNat s (1 + a) i.toNat := fun a q1 q2 => (am_uE (by omega)).trans ((hv5 a q1 q2).trans (am_uE (by omega)).symm)
      have n1 : am_up μ 20 0 s 15 4 = 2 := (am_upN (by decide)).trans hv6
      have nj : am_up ν 6 j.toNat s 1 4 = ν 1 4 := am_upN (by decide)
      have fr20 : ∀ a b, ¬(15 ≤ a ∧ a < 22) → am_up μ 20 0 s a b = μ a b := fun a b z => am_upN (by omega)
      have frk : ∀ a, am_up μ 20 0 s (15 + a) 1 = μ (15 + a) 1 := fun a => am_uE (by omega)
      have frn : ∀ a, a ≠ 5 → am_up μ 20 0 s (15 + a) 0 = μ (15 + a) 0 := fun a z => am_uE (by omega)
      have wb := fp_ah_b (fp_sd (fv ν 1) j.toNat s) i.toNat j.toNat
      have cw8 : am_c (fp_ah (fp_sd (fv ν 1) j.toNat s) i.toNat j.toNat - 8) = fp_ah (fp_sd (fv ν 1) j.toNat s) i.toNat j.toNat - 8 := am_cR (by omega) (by omega)
      have yb : 0 ≤ y ∧ y ≤ 17 := by rcases hv8 with z | z; (omega); (have x := fp_ef_b (fv ν 1) i.toNat j.toNat (fq_m (fp_ef (fv ν 1) i.toNat j.toNat) (s.toNat - 1)); omega)
      have cy : am_c y = y := am_cR (by omega) (by omega)
      have ee : (fp_ef (fv ν 1) i.toNat j.toNat) s.toNat = (if 0 ≤ fp_ah (fp_sd (fv ν 1) j.toNat s) i.toNat j.toNat - 8 then fp_ah (fp_sd (fv ν 1) j.toNat s) i.toNat j.toNat - 8 else 0 - (fp_ah (fp_sd (fv ν 1) j.toNat s) i.toNat j.toNat - 8)) := by unfold fp_ef; rw [Int.toNat_of_nonneg hv1]
      have eb := fp_ef_b (fv ν 1) i.toNat j.toNat s.toNat
      have ce : am_c ((fp_ef (fv ν 1) i.toNat j.toNat) s.toNat) = (fp_ef (fv ν 1) i.toNat j.toNat) s.toNat := am_cR (by omega) (by omega)
      have e2 : (if 0 ≤ am_c (fp_ah (fp_sd (fv ν 1) j.toNat s) i.toNat j.toNat - 8) then fp_ah (fp_sd (fv ν 1) j.toNat s) i.toNat j.toNat - 8 else 0 - (fp_ah (fp_sd (fv ν 1) j.toNat s) i.toNat j.toNat - 8)) = (fp_ef (fv ν 1) i.toNat j.toNat) s.toNat := by rw [cw8]; exact ee.symm
      refine am_go (ct := fun pc => Nat.beq pc 32) am_oX6_even 300 ?_
      conv => whnf
      repeat' first
        | (refine (?_ : am_wp _ _ _ _ _ _ _ _ _ _ _ _); conv => whnf)
        | (refine (?_ : am_sw _ _ _ _); conv => whnf)
        | refine And.intro trivial ?_
        | exact trivial
        | (have s9 : s ≤ 99 := (by rw [cs, l99] at *; omega); obtain ⟨hf, hs⟩ := fp_ah_f1 (by rw [fe]; exact fw_sd hw ⟨hv1, s9⟩) i0 (by rw [nj]; exact i1) j0 (by rw [nj]; exact j1) b1 r0 r1 n1; rw [ix]; refine x_draw_15 hf hs (fun μ2 f2 d0 dr => ?_); have hb := fp_rw_b (c := 15) hf hs d0 dr; have hn : μ2 29 0 = 2 := d0.trans n1; have hz := fp_ah_r1 hij i0 i4 j0 j4 b1 r0 r1 n1 d0 dr; rw [fe] at hz)
        | (refine x_ways 1 (by decide) (by rw [hn]; decide) (by rw [hn]; decide) hb ?_; rw [show fp_wy (μ2 30) (μ2 31) (μ2 32) (μ2 29 0).toNat (1 : Int).toNat = fp_ah (fp_sd (fv ν 1) j.toNat s) i.toNat j.toNat from hz])
        | refine kk _ _ sE ?_
        | refine x_notTwo _ _ ci cj f0 f1 (fun y => absurd y (by omega)) (fun y0 y1 y2 => ?_)
        | refine x_alone1 _ _ ci cj hij i0 i4 j0 j4 (fun μ1 g1 e1 n1 r0 r1 => ?_)
        | refine ih _ _ _ _ _ ?_ ?_ ?_ ?_ ?_ ?_ ?_ ?_ ?_ ?_
        | refine And.intro (fun h => absurd h (by decide)) (fun _ => ?_)
        | refine And.intro (fun _ => ?_) (fun h => absurd (by decide) h)
        | refine And.intro (fun _ => ?_) (fun _ => ?_)
        | refine And.intro ?_ ?_
      all_goals (first | decide | omega | (rw [hn]; decide) | (rw [ix]; decide) | (intro a b q1 q2 q3; exact (f2 a b q2 q3).trans ((fr20 a b q1).trans (hv0 a b q1 q2 q3))) | (intro b hb; rw [f2 15 b (by omega) (by omega), am_upN (by decide)]; exact hv3 b hb) | (intro a q1 q2; exact (f2 (15 + a) 1 (by omega) (by omega)).trans ((frk a).trans (hv5 a q1 q2))) | (intro a q1 q2 q3; exact (f2 (15 + a) 0 (by omega) (by omega)).trans ((frn a q3).trans (hv4 a q1 q2 q3))) | (rw [f2 15 4 (by omega) (by omega)]; exact n1) | (rw [hn]; decide) | (refine Or.inr ⟨by omega, ?_⟩; rcases hv8 with ⟨z1, z2, z3⟩ | ⟨z1, z2, z3⟩; (subst z1; first | exact ⟨rfl, e2⟩ | (exfalso; simp only [e2, ce, cy] at *; omega)); (rw [fq_m_s z1]; first | (rw [if_pos (by rw [← z3]; simp only [e2, ce, cy] at *; omega)]; exact ⟨(Int.toNat_of_nonneg hv1).symm, e2⟩) | (rw [if_neg (by rw [← z3]; simp only [e2, ce, cy] at *; omega)]; exact ⟨z2, z3⟩))) | (have x := hv8.resolve_left (by rw [cs, l99] at *; omega); rw [x.2.1, show s.toNat - 1 = 99 by rw [cs, l99] at *; omega]) | (trace_state; fail))
  have lp32' : ∀ (t y s : Int) (o7 : Option am_V) (μ : am_N) , (∀ a b, ¬(15 ≤ a ∧ a < 22) → ¬(30 ≤ a ∧ a ≤ 32) → ¬(a = 29 ∧ b = 0) → μ a b = ν a b) → 0 ≤ s → s ≤ 100 → (∀ b : Nat, b < 4 → μ 15 b = ν 1 b) → (∀ a : Nat, 0 < a → a < 7 → a ≠ 5 → μ (15 + a) 0 = ν (1 + a) j.toNat) → (∀ a : Nat, 0 < a → a < 7 → μ (15 + a) 1 = ν (1 + a) i.toNat) → μ 15 4 = 2 → (0 ≤ μ 29 0 ∧ μ 29 0 ≤ 4) → (s = 0 ∧ t = 0 ∧ y = 17) ∨ (1 ≤ s ∧ t = ((fq_m (fp_ef (fv ν 1) i.toNat j.toNat) (s.toNat - 1) : Nat) : Int) ∧ y = (fp_ef (fv ν 1) i.toNat j.toNat) (fq_m (fp_ef (fv ν 1) i.toNat j.toNat) (s.toNat - 1))) → am_AW l 0 (fun _ => 0) 73 Q 32 [some (.inr (.inr 0)), some (.inl i), some (.inl j), some (.inl 1), some (.inl t), some (.inl y), some (.inl s), o7] [] μ := fun t y s o7 μ hv0 hv1 hv2 hv3 hv4 hv5 hv6 hv7 hv8 => lp32 ((100 - s) + 1).toNat t y s o7 μ hv0 hv1 hv2 hv3 hv4 hv5 hv6 hv7 hv8 (by omega)
  refine am_go (ct := fun pc => Nat.beq pc 32) am_oX6_even 300 ?_
  conv => whnf
  repeat' first
    | (refine (?_ : am_wp _ _ _ _ _ _ _ _ _ _ _ _); conv => whnf)
    | (refine (?_ : am_sw _ _ _ _); conv => whnf)
    | refine And.intro trivial ?_
    | exact trivial
    | refine x_notTwo _ _ ci cj f0 f1 (fun y => absurd y (by omega)) (fun y0 y1 y2 => ?_)
    | refine x_alone1 _ _ ci cj hij i0 i4 j0 j4 (fun μ1 g1 e1 n1 r0 r1 => ?_)
    | refine lp32' _ _ _ _ _ ?_ ?_ ?_ ?_ ?_ ?_ ?_ ?_ ?_
    | refine And.intro (fun h => absurd h (by decide)) (fun _ => ?_)
    | refine And.intro (fun _ => ?_) (fun h => absurd (by decide) h)
    | refine And.intro (fun _ => ?_) (fun _ => ?_)
    | refine And.intro ?_ ?_
  all_goals (first | decide | assumption | omega | rfl | (intro a b q1 q2 q3; exact g1 a b q1) | (intro a q1 q2 q3; exact r0 a q1 q2) | (intro a q1 q2 q3; exact r1 a q1 q2) | exact r0 | exact r1 | exact e1 | (rw [g1 29 0 (by omega)]; first | exact hS.2.2.2.1.2.2.1 | exact hS.2.2.2.1.2.2.1.1 | exact hS.2.2.2.1.2.2.1.2) | exact Or.inl ⟨rfl, rfl, rfl⟩ | (trace_state; fail))
theorem s_evenN {l : Launch} {ν : am_N} {Q : Option am_V → am_N → Prop} (i j : Int) (ci : am_c i = i) (cj : am_c j = j) (hS : sx ν ν) (hw : fp_fw 999 (fv ν 1)) (hn : ¬((0 ≤ i ∧ i < ν 1 4) ∧ (0 ≤ j ∧ j < ν 1 4) ∧ i ≠ j)) (k : ∀ μ' : am_N, sx ν μ' → Q (some (.inl (-1))) μ') : am_Does l 73 [.inr (.inr 0), .inl i, .inl j] ν Q := by
  refine am_Does_of (Nat.le_of_ble_eq_true rfl) (Nat.le_of_ble_eq_true rfl) (Nat.le_of_ble_eq_true rfl) ?_
  have l0 : am_c 0 = 0 := rfl
  have l1 : am_c 1 = 1 := rfl
  have l2 : am_c 2 = 2 := rfl
  have l3 : am_c 3 = 3 := rfl
  have l4 : am_c 4 = 4 := rfl
  have l8 : am_c 8 = 8 := rfl
  have l16 : am_c 16 = 16 := rfl
  have l99 : am_c 99 = 99 := rfl
  have m1' : am_c (-1) = -1 := rfl
  have m2' : am_c (-2) = -2 := rfl
  have m3' : am_c (-3) = -3 := rfl
  have m9' : am_c (-9) = -9 := rfl
  obtain ⟨hf, -, -, -, -, -, hx⟩ := fw_C hw (by decide)
  have f0 := hf.1.1
  have f1 := hf.1.2
  have e4 : fv ν 1 0 4 = ν 1 4 := fv_0 (by decide)
  have cn : am_c (ν 1 4) = ν 1 4 := am_cR (by omega) (by omega)
  refine am_go (ct := fun pc => Nat.beq pc 32) am_oX6_even 300 ?_
  conv => whnf
  repeat' first
    | (refine (?_ : am_wp _ _ _ _ _ _ _ _ _ _ _ _); conv => whnf)
    | (refine (?_ : am_sw _ _ _ _); conv => whnf)
    | refine And.intro trivial ?_
    | exact trivial
    | refine x_notTwo _ _ ci cj f0 f1 (fun y => ?_) (fun y0 y1 y2 => absurd ⟨y0, y1, y2⟩ hn)
    | refine x_refuse _ ?_ (fun μr fr => ?_)
    | exact k _ (sx_78 hS fr)
    | refine And.intro (fun h => absurd h (by decide)) (fun _ => ?_)
    | refine And.intro (fun _ => ?_) (fun h => absurd (by decide) h)
    | refine And.intro (fun _ => ?_) (fun _ => ?_)
    | refine And.intro ?_ ?_
  all_goals (first | decide | omega | (trace_state; fail))
theorem s_even {l : Launch} {ν : am_N} {Q : Option am_V → am_N → Prop} (i j : Int) (ci : am_c i = i) (cj : am_c j = j) (hS : sx ν ν) (hw : fp_fw 999 (fv ν 1)) (k : ∀ μ' : am_N, sx ν μ' → Q (some (.inl (fp_evr (fv ν 1) i j))) μ') : am_Does l 73 [.inr (.inr 0), .inl i, .inl j] ν Q := by
  have e4 : fv ν 1 0 4 = ν 1 4 := fv_0 (by decide)
  by_cases h : (0 ≤ i ∧ i < ν 1 4) ∧ (0 ≤ j ∧ j < ν 1 4) ∧ i ≠ j
  · have e : fp_evr (fv ν 1) i j = ((fq_m (fp_ef (fv ν 1) i.toNat j.toNat) 99 : Nat) : Int) := by unfold fp_evr; rw [e4, if_neg (by omega)]
    rw [e] at k
    rcases (show i < j ∨ j < i by omega) with d | d
    · exact s_even0 i j ci cj hS hw d h.1.1 h.1.2 h.2.1.1 h.2.1.2 k
    · exact s_even1 i j ci cj hS hw d h.1.1 h.1.2 h.2.1.1 h.2.1.2 k
  · have e : fp_evr (fv ν 1) i j = -1 := by unfold fp_evr; rw [e4, if_pos h]
    rw [e] at k
    exact s_evenN i j ci cj hS hw h k
theorem n_even {l : Launch} {ν : am_N} {Q : Option am_V → am_N → Prop} (i j : Int) (ci : am_c i = i) (cj : am_c j = j) (hm : mi ν) (hw : fp_fw 999 (mv ν)) (k : ∀ μ' : am_N, gm ms ν μ' → Q (some (.inl (fp_evr (mv ν) i j))) μ') : am_Does l 195 [.inr (.inr 83), .inl i, .inl j] ν Q := by
  refine am_Does_of (Nat.le_of_ble_eq_true rfl) (Nat.le_of_ble_eq_true rfl) (Nat.le_of_ble_eq_true rfl) ?_
  have l0 : am_c 0 = 0 := rfl
  have l1 : am_c 1 = 1 := rfl
  have l2 : am_c 2 = 2 := rfl
  have l3 : am_c 3 = 3 := rfl
  have l4 : am_c 4 = 4 := rfl
  have l8 : am_c 8 = 8 := rfl
  have l16 : am_c 16 = 16 := rfl
  have l99 : am_c 99 = 99 := rfl
  have m1' : am_c (-1) = -1 := rfl
  have m2' : am_c (-2) = -2 := rfl
  have m3' : am_c (-3) = -3 := rfl
  have m9' : am_c (-9) = -9 := rfl
  obtain ⟨hf, -, -, -, -, -, hx⟩ := fw_M hw (by decide)
  have f0 := hf.1.1
  have f1 := hf.1.2
  have e4 : mv ν 0 4 = ν 83 14 := rfl
  have cn : am_c (ν 83 14) = ν 83 14 := am_cR (by omega) (by omega)
  have hm0 := hm
  have ej : (am_c j).toNat = j.toNat := by rw [cj]
  have kk := fun (x : Int) (μ' : am_N) (h : gm ms ν μ') (e : x = fp_evr (mv ν) i j) => am_qe (k μ' h) e
  have lp32 : ∀ (m : Nat) (d t y s : Int) (o7 : Option am_V) (μ : am_N) , (∀ a b, ¬(a = 89 ∧ b = j.toNat) → μ a b = ν a b) → 0 ≤ s → s ≤ 100 → d = ν 89 j.toNat → (0 ≤ i ∧ i < ν 83 14) → (0 ≤ j ∧ j < ν 83 14) → i ≠ j → (s = 0 ∧ t = 0 ∧ y = 99) ∨ (1 ≤ s ∧ t = ((fq_m (fp_ef (mv ν) i.toNat j.toNat) (s.toNat - 1) : Nat) : Int) ∧ y = (fp_ef (mv ν) i.toNat j.toNat) (fq_m (fp_ef (mv ν) i.toNat j.toNat) (s.toNat - 1))) → 100 - s < (m : Int) → am_AW l 0 (fun _ => 0) 195 Q 32 [some (.inr (.inr 83)), some (.inl i), some (.inl j), some (.inl d), some (.inl t), some (.inl y), some (.inl s), o7] [] μ := by
    intro m
    induction m with
    | zero =>
      intro d t y s o7 μ hv0 hv1 hv2 hv3 hv4 hv5 hv6 hv7 hm
      exfalso
      omega
    | succ m ih =>
      intro d t y s o7 μ hv0 hv1 hv2 hv3 hv4 hv5 hv6 hv7 hm
      have cs : am_c s = s := am_cR (by omega) (by omega)
      have p2 : mv (am_up μ 89 (am_c j).toNat s) = fp_sd (mv ν) j.toNat s := by rw [ej]; exact mv_but (a := 4) (by decide) (fun x b _ q => hv0 x b q)
      have e14 : am_up μ 89 (am_c j).toNat s 83 14 = ν 83 14 := (am_upN (by decide)).trans (hv0 83 14 (by omega))
      have hE : gm ms ν (am_up μ 89 (am_c j).toNat d) := by rw [show am_up μ 89 (am_c j).toNat d = ν from funext (fun a => funext (fun b => by by_cases q : a = 89 ∧ b = (am_c j).toNat; (rw [am_upS, if_pos q, q.1, q.2, ej]; exact hv3); (rw [am_uE q]; exact hv0 a b (by rw [ej] at q; exact q))))]; exact gm_rf hm0
      have wb := fp_ah_b (fp_sd (mv ν) j.toNat s) i.toNat j.toNat
      have cw8 : am_c (fp_ah (fp_sd (mv ν) j.toNat s) i.toNat j.toNat - 8) = fp_ah (fp_sd (mv ν) j.toNat s) i.toNat j.toNat - 8 := am_cR (by omega) (by omega)
      have cw9 : am_c (-(fp_ah (fp_sd (mv ν) j.toNat s) i.toNat j.toNat - 8)) = -(fp_ah (fp_sd (mv ν) j.toNat s) i.toNat j.toNat - 8) := am_cR (by omega) (by omega)
      have yb : 0 ≤ y ∧ y ≤ 99 := by rcases hv7 with z | z; (omega); (have x := fp_ef_b (mv ν) i.toNat j.toNat (fq_m (fp_ef (mv ν) i.toNat j.toNat) (s.toNat - 1)); omega)
      have cy : am_c y = y := am_cR (by omega) (by omega)
      have eb := fp_ef_b (mv ν) i.toNat j.toNat s.toNat
      have ee : (fp_ef (mv ν) i.toNat j.toNat) s.toNat = (if 0 ≤ fp_ah (fp_sd (mv ν) j.toNat s) i.toNat j.toNat - 8 then fp_ah (fp_sd (mv ν) j.toNat s) i.toNat j.toNat - 8 else 0 - (fp_ah (fp_sd (mv ν) j.toNat s) i.toNat j.toNat - 8)) := by unfold fp_ef; rw [Int.toNat_of_nonneg hv1]
      refine am_go (ct := fun pc => Nat.beq pc 32) am_oX7_even 300 ?_
      conv => whnf
      repeat' first
        | (refine (?_ : am_wp _ _ _ _ _ _ _ _ _ _ _ _); conv => whnf)
        | (refine (?_ : am_sw _ _ _ _); conv => whnf)
        | refine And.intro trivial ?_
        | exact trivial
        | (have s9 : s ≤ 99 := (by rw [cs, l99] at *; omega); refine n_aheadOf _ _ (by rw [p2]; exact fw_sd hw ⟨hv1, s9⟩) (by rw [e14]; exact hv4) (by rw [e14]; exact hv5) ?_; rw [p2])
        | refine kk _ _ hE ?_
        | refine x_areTwoT _ _ ci cj f0 f1 (fun y0 y1 y2 => ?_) (fun y => ?_)
        | refine x_no _ ?_ (fun μr fr => ?_)
        | refine kk _ _ (mi_84 hm fr) ?_
        | refine ih _ _ _ _ _ _ ?_ ?_ ?_ ?_ ?_ ?_ ?_ ?_ ?_
        | refine And.intro (fun h => absurd h (by decide)) (fun _ => ?_)
        | refine And.intro (fun _ => ?_) (fun h => absurd (by decide) h)
        | refine And.intro (fun _ => ?_) (fun _ => ?_)
        | refine And.intro ?_ ?_
      all_goals (first | decide | assumption | omega | (rw [cj]; omega) | (intro a b q; rw [am_uE (by rw [ej]; exact q)]; exact hv0 a b q) | (refine Or.inr ⟨by omega, ?_⟩; rcases hv7 with ⟨z1, z2, z3⟩ | ⟨z1, z2, z3⟩; (subst z1; first | (refine ⟨rfl, ?_⟩; show _ = (fp_ef (mv ν) i.toNat j.toNat) (0 : Int).toNat; rw [ee]; first | (rw [if_pos (by rw [cw8] at *; omega)]) | (rw [if_neg (by rw [cw8] at *; omega)]; omega)) | (exfalso; simp only [cw8, cw9, cy] at *; omega)); (rw [fq_m_s z1]; first | (rw [if_pos (by rw [← z3, ee]; split <;> (simp only [cw8, cw9, cy] at *; omega))]; refine ⟨(Int.toNat_of_nonneg hv1).symm, ?_⟩; rw [ee]; first | (rw [if_pos (by rw [cw8] at *; omega)]) | (rw [if_neg (by rw [cw8] at *; omega)]; omega)) | (rw [if_neg (by rw [← z3, ee]; split <;> (simp only [cw8, cw9, cy] at *; omega))]; exact ⟨z2, z3⟩))) | (have x := hv7.resolve_left (by rw [cs, l99] at *; omega); unfold fp_evr; rw [e4, if_neg (by omega), x.2.1, show s.toNat - 1 = 99 by rw [cs, l99] at *; omega]) | (trace_state; fail))
  have lp32' : ∀ (d t y s : Int) (o7 : Option am_V) (μ : am_N) , (∀ a b, ¬(a = 89 ∧ b = j.toNat) → μ a b = ν a b) → 0 ≤ s → s ≤ 100 → d = ν 89 j.toNat → (0 ≤ i ∧ i < ν 83 14) → (0 ≤ j ∧ j < ν 83 14) → i ≠ j → (s = 0 ∧ t = 0 ∧ y = 99) ∨ (1 ≤ s ∧ t = ((fq_m (fp_ef (mv ν) i.toNat j.toNat) (s.toNat - 1) : Nat) : Int) ∧ y = (fp_ef (mv ν) i.toNat j.toNat) (fq_m (fp_ef (mv ν) i.toNat j.toNat) (s.toNat - 1))) → am_AW l 0 (fun _ => 0) 195 Q 32 [some (.inr (.inr 83)), some (.inl i), some (.inl j), some (.inl d), some (.inl t), some (.inl y), some (.inl s), o7] [] μ := fun d t y s o7 μ hv0 hv1 hv2 hv3 hv4 hv5 hv6 hv7 => lp32 ((100 - s) + 1).toNat d t y s o7 μ hv0 hv1 hv2 hv3 hv4 hv5 hv6 hv7 (by omega)
  refine am_go (ct := fun pc => Nat.beq pc 32) am_oX7_even 300 ?_
  conv => whnf
  repeat' first
    | (refine (?_ : am_wp _ _ _ _ _ _ _ _ _ _ _ _); conv => whnf)
    | (refine (?_ : am_sw _ _ _ _); conv => whnf)
    | refine And.intro trivial ?_
    | exact trivial
    | refine x_areTwoT _ _ ci cj f0 f1 (fun y0 y1 y2 => ?_) (fun y => ?_)
    | refine x_no _ ?_ (fun μr fr => ?_)
    | refine kk _ _ (mi_84 hm fr) ?_
    | refine lp32' _ _ _ _ _ _ ?_ ?_ ?_ ?_ ?_ ?_ ?_ ?_
    | refine And.intro (fun h => absurd h (by decide)) (fun _ => ?_)
    | refine And.intro (fun _ => ?_) (fun h => absurd (by decide) h)
    | refine And.intro (fun _ => ?_) (fun _ => ?_)
    | refine And.intro ?_ ?_
  all_goals (first | decide | assumption | omega | rfl | (rw [cj]; omega) | (rw [ej]) | (intros; rfl) | exact Or.inl ⟨rfl, rfl, rfl⟩ | (unfold fp_evr; rw [e4, if_pos (by omega)]) | (trace_state; fail))
theorem s_leagueWays {l : Launch} {ν : am_N} {Q : Option am_V → am_N → Prop} (i : Int) (ci : am_c i = i) (hS : sx ν ν) (hw : fp_fw 999 (fv ν 1)) (i0 : 0 ≤ i) (i1 : i < ν 1 4) (k : ∀ μ' : am_N, (∀ a b, ¬(15 ≤ a ∧ a < 22) → ¬(30 ≤ a ∧ a ≤ 32) → ¬(a = 29 ∧ b = 0) → μ' a b = ν a b) → (0 ≤ μ' 15 4 ∧ μ' 15 4 ≤ 4) → (0 ≤ μ' 29 0 ∧ μ' 29 0 ≤ 4) → Q (some (.inl (fp_lp (fv ν 1) i.toNat (ν 1 4).toNat))) μ') : am_Does l 133 [.inr (.inr 0), .inl i] ν Q := by
  refine am_Does_of (Nat.le_of_ble_eq_true rfl) (Nat.le_of_ble_eq_true rfl) (Nat.le_of_ble_eq_true rfl) ?_
  have l0 : am_c 0 = 0 := rfl
  have l1 : am_c 1 = 1 := rfl
  have l2 : am_c 2 = 2 := rfl
  have l3 : am_c 3 = 3 := rfl
  have l4 : am_c 4 = 4 := rfl
  have l8 : am_c 8 = 8 := rfl
  have l16 : am_c 16 = 16 := rfl
  have l99 : am_c 99 = 99 := rfl
  have m1' : am_c (-1) = -1 := rfl
  have m2' : am_c (-2) = -2 := rfl
  have m3' : am_c (-3) = -3 := rfl
  have m9' : am_c (-9) = -9 := rfl
  obtain ⟨hf, -, -, -, -, -, hx⟩ := fw_C hw (by decide)
  have f0 := hf.1.1
  have f1 := hf.1.2
  have e4 : fv ν 1 0 4 = ν 1 4 := fv_0 (by decide)
  have cn : am_c (ν 1 4) = ν 1 4 := am_cR (by omega) (by omega)
  have lp4 : ∀ (m : Nat) (x j : Int) (μ : am_N) , (∀ a b, ¬(15 ≤ a ∧ a < 22) → ¬(30 ≤ a ∧ a ≤ 32) → ¬(a = 29 ∧ b = 0) → μ a b = ν a b) → 0 ≤ j → j ≤ ν 1 4 → x = fp_lp (fv ν 1) i.toNat j.toNat → (0 ≤ μ 15 4 ∧ μ 15 4 ≤ 4) → (0 ≤ μ 29 0 ∧ μ 29 0 ≤ 4) → ν 1 4 - j < (m : Int) → am_AW l 0 (fun _ => 0) 133 Q 4 [some (.inr (.inr 0)), some (.inl i), some (.inl x), some (.inl j)] [] μ := by
    intro m
    induction m with
    | zero =>
      intro x j μ hv0 hv1 hv2 hv3 hv4 hv5 hm
      exfalso
      omega
    | succ m ih =>
      intro x j μ hv0 hv1 hv2 hv3 hv4 hv5 hm
      have cj : am_c j = j := am_cR (by omega) (by omega)
      have e14 : μ 1 4 = ν 1 4 := hv0 1 4 (by omega) (by omega) (by omega)
      have eF : fv μ 1 = (fv ν 1) := fv_keep (fun a b q1 q2 => hv0 a b (by omega) (by omega) (by omega))
      have kk := fun (x : Int) (e : x = fp_lp (fv ν 1) i.toNat (ν 1 4).toNat) => am_qe (k μ hv0 hv4 hv5) e
      refine am_go (ct := fun pc => Nat.beq pc 4) am_oX6_leagueWays 300 ?_
      conv => whnf
      repeat' first
        | (refine (?_ : am_wp _ _ _ _ _ _ _ _ _ _ _ _); conv => whnf)
        | (refine (?_ : am_sw _ _ _ _); conv => whnf)
        | refine And.intro trivial ?_
        | exact trivial
        | (have hj : j < ν 1 4 := (by rw [cj, e14, cn] at *; omega); refine s_six _ _ ci cj (by rw [eF]; exact hw) (by rw [cj, ci] at *; omega) i0 (by rw [e14]; exact i1) hv1 (by rw [e14]; exact hj) (fun μ2 g2 n15 n29 => ?_); rw [eF])
        | refine kk _ ?_
        | refine ih _ _ _ ?_ ?_ ?_ ?_ ?_ ?_ ?_
        | refine And.intro (fun h => absurd h (by decide)) (fun _ => ?_)
        | refine And.intro (fun _ => ?_) (fun h => absurd (by decide) h)
        | refine And.intro (fun _ => ?_) (fun _ => ?_)
        | refine And.intro ?_ ?_
      all_goals (first | decide | assumption | omega | (intro a b q1 q2 q3; rw [g2 a b q1 q2 q3]; exact hv0 a b q1 q2 q3) | (rw [n15]; decide) | (rw [n29]; decide) | (rw [cj, e14, cn] at *; omega) | (rw [show (j + 1).toNat = j.toNat + 1 by omega]; simp only [fp_lp]; first | (rw [if_pos (by rw [cj, ci] at *; omega)]; exact hv3) | (rw [if_neg (by rw [cj, ci] at *; omega), hv3])) | (rw [hv3, show j.toNat = (ν 1 4).toNat by rw [cj, e14, cn] at *; omega]) | (trace_state; fail))
  have lp4' : ∀ (x j : Int) (μ : am_N) , (∀ a b, ¬(15 ≤ a ∧ a < 22) → ¬(30 ≤ a ∧ a ≤ 32) → ¬(a = 29 ∧ b = 0) → μ a b = ν a b) → 0 ≤ j → j ≤ ν 1 4 → x = fp_lp (fv ν 1) i.toNat j.toNat → (0 ≤ μ 15 4 ∧ μ 15 4 ≤ 4) → (0 ≤ μ 29 0 ∧ μ 29 0 ≤ 4) → am_AW l 0 (fun _ => 0) 133 Q 4 [some (.inr (.inr 0)), some (.inl i), some (.inl x), some (.inl j)] [] μ := fun x j μ hv0 hv1 hv2 hv3 hv4 hv5 => lp4 ((ν 1 4 - j) + 1).toNat x j μ hv0 hv1 hv2 hv3 hv4 hv5 (by omega)
  refine am_go (ct := fun pc => Nat.beq pc 4) am_oX6_leagueWays 300 ?_
  conv => whnf
  repeat' first
    | (refine (?_ : am_wp _ _ _ _ _ _ _ _ _ _ _ _); conv => whnf)
    | (refine (?_ : am_sw _ _ _ _); conv => whnf)
    | refine And.intro trivial ?_
    | exact trivial
    | refine lp4' _ _ _ ?_ ?_ ?_ ?_ ?_ ?_
    | refine And.intro (fun h => absurd h (by decide)) (fun _ => ?_)
    | refine And.intro (fun _ => ?_) (fun h => absurd (by decide) h)
    | refine And.intro (fun _ => ?_) (fun _ => ?_)
    | refine And.intro ?_ ?_
  all_goals (first | decide | assumption | omega | rfl | (intros; rfl) | exact hS.2.2.2.1.2.1 | exact hS.2.2.2.1.2.1.1 | exact hS.2.2.2.1.2.1.2 | exact hS.2.2.2.1.2.2.1 | exact hS.2.2.2.1.2.2.1.1 | exact hS.2.2.2.1.2.2.1.2 | (trace_state; fail))
theorem n_leaguePoints {l : Launch} {ν : am_N} {Q : Option am_V → am_N → Prop} (i : Int) (ci : am_c i = i) (hw : fp_fw 999 (mv ν)) (i0 : 0 ≤ i) (i1 : i < ν 83 14) (k : Q (some (.inl (fp_lp (mv ν) i.toNat (ν 83 14).toNat))) ν) : am_Does l 222 [.inr (.inr 83), .inl i] ν Q := by
  refine am_Does_of (Nat.le_of_ble_eq_true rfl) (Nat.le_of_ble_eq_true rfl) (Nat.le_of_ble_eq_true rfl) ?_
  have l0 : am_c 0 = 0 := rfl
  have l1 : am_c 1 = 1 := rfl
  have l2 : am_c 2 = 2 := rfl
  have l3 : am_c 3 = 3 := rfl
  have l4 : am_c 4 = 4 := rfl
  have l8 : am_c 8 = 8 := rfl
  have l16 : am_c 16 = 16 := rfl
  have l99 : am_c 99 = 99 := rfl
  have m1' : am_c (-1) = -1 := rfl
  have m2' : am_c (-2) = -2 := rfl
  have m3' : am_c (-3) = -3 := rfl
  have m9' : am_c (-9) = -9 := rfl
  obtain ⟨hf, -, -, -, -, -, hx⟩ := fw_M hw (by decide)
  have f0 := hf.1.1
  have f1 := hf.1.2
  have e4 : mv ν 0 4 = ν 83 14 := rfl
  have cn : am_c (ν 83 14) = ν 83 14 := am_cR (by omega) (by omega)
  have lp4 : ∀ (m : Nat) (x j : Int) , 0 ≤ j → j ≤ ν 83 14 → x = fp_lp (mv ν) i.toNat j.toNat → ν 83 14 - j < (m : Int) → am_AW l 0 (fun _ => 0) 222 Q 4 [some (.inr (.inr 83)), some (.inl i), some (.inl x), some (.inl j)] [] ν := by
    intro m
    induction m with
    | zero =>
      intro x j  hv0 hv1 hv2 hm
      exfalso
      omega
    | succ m ih =>
      intro x j  hv0 hv1 hv2 hm
      have cj : am_c j = j := am_cR (by omega) (by omega)
      refine am_go (ct := fun pc => Nat.beq pc 4) am_oX7_leaguePoints 300 ?_
      conv => whnf
      repeat' first
        | (refine (?_ : am_wp _ _ _ _ _ _ _ _ _ _ _ _); conv => whnf)
        | (refine (?_ : am_sw _ _ _ _); conv => whnf)
        | refine And.intro trivial ?_
        | exact trivial
        | (have hj : j < ν 83 14 := (by rw [cj, cn] at *; omega); refine n_aheadOf _ _ hw ⟨i0, i1⟩ ⟨hv0, hj⟩ ?_)
        | refine am_qe k ?_
        | refine ih _ _  ?_ ?_ ?_ ?_
        | refine And.intro (fun h => absurd h (by decide)) (fun _ => ?_)
        | refine And.intro (fun _ => ?_) (fun h => absurd (by decide) h)
        | refine And.intro (fun _ => ?_) (fun _ => ?_)
        | refine And.intro ?_ ?_
      all_goals (first | decide | assumption | omega | (rw [cj, cn] at *; omega) | (rw [show (j + 1).toNat = j.toNat + 1 by omega]; simp only [fp_lp]; first | (rw [if_pos (by rw [cj, ci] at *; omega), hv2]; exact Int.add_zero _) | (rw [if_neg (by rw [cj, ci] at *; omega), hv2])) | (rw [hv2, show j.toNat = (ν 83 14).toNat by rw [cj, cn] at *; omega]) | (trace_state; fail))
  have lp4' : ∀ (x j : Int) , 0 ≤ j → j ≤ ν 83 14 → x = fp_lp (mv ν) i.toNat j.toNat → am_AW l 0 (fun _ => 0) 222 Q 4 [some (.inr (.inr 83)), some (.inl i), some (.inl x), some (.inl j)] [] ν := fun x j  hv0 hv1 hv2 => lp4 ((ν 83 14 - j) + 1).toNat x j  hv0 hv1 hv2 (by omega)
  refine am_go (ct := fun pc => Nat.beq pc 4) am_oX7_leaguePoints 300 ?_
  conv => whnf
  repeat' first
    | (refine (?_ : am_wp _ _ _ _ _ _ _ _ _ _ _ _); conv => whnf)
    | (refine (?_ : am_sw _ _ _ _); conv => whnf)
    | refine And.intro trivial ?_
    | exact trivial
    | refine lp4' _ _  ?_ ?_ ?_
    | refine And.intro (fun h => absurd h (by decide)) (fun _ => ?_)
    | refine And.intro (fun _ => ?_) (fun h => absurd (by decide) h)
    | refine And.intro (fun _ => ?_) (fun _ => ?_)
    | refine And.intro ?_ ?_
  all_goals (first | decide | assumption | omega | rfl | (trace_state; fail))
theorem s_league {l : Launch} {ν : am_N} {Q : Option am_V → am_N → Prop} (i w : Int) (ci : am_c i = i) (cw : am_c w = w) (hS : sx ν ν) (hw : fp_fw 999 (fv ν 1)) (k : ∀ μ' : am_N, sx ν μ' → Q (some (.inr (.inl (fp_lgr (fv ν 1) i w)))) μ') : am_Does l 97 [.inr (.inr 0), .inl i, .inl w] ν Q := by
  refine am_Does_of (Nat.le_of_ble_eq_true rfl) (Nat.le_of_ble_eq_true rfl) (Nat.le_of_ble_eq_true rfl) ?_
  have l0 : am_c 0 = 0 := rfl
  have l1 : am_c 1 = 1 := rfl
  have l2 : am_c 2 = 2 := rfl
  have l3 : am_c 3 = 3 := rfl
  have l4 : am_c 4 = 4 := rfl
  have l8 : am_c 8 = 8 := rfl
  have l16 : am_c 16 = 16 := rfl
  have l99 : am_c 99 = 99 := rfl
  have m1' : am_c (-1) = -1 := rfl
  have m2' : am_c (-2) = -2 := rfl
  have m3' : am_c (-3) = -3 := rfl
  have m9' : am_c (-9) = -9 := rfl
  obtain ⟨hf, -, -, -, -, -, hx⟩ := fw_C hw (by decide)
  have f0 := hf.1.1
  have f1 := hf.1.2
  have e4 : fv ν 1 0 4 = ν 1 4 := fv_0 (by decide)
  have cn : am_c (ν 1 4) = ν 1 4 := am_cR (by omega) (by omega)
  have lb := fp_lp_b (fv ν 1) i.toNat (ν 1 4).toNat
  have cl : am_c (fp_lp (fv ν 1) i.toNat (ν 1 4).toNat) = fp_lp (fv ν 1) i.toNat (ν 1 4).toNat := am_cR (by omega) (by omega)
  have kk := fun (x : Int) (μ' : am_N) (h : sx ν μ') (e : x = fp_lgr (fv ν 1) i w) => am_qd (k μ' h) e
  refine am_go (ct := fun _ => false) am_oX6_league 300 ?_
  conv => whnf
  repeat' first
    | (refine (?_ : am_wp _ _ _ _ _ _ _ _ _ _ _ _); conv => whnf)
    | (refine (?_ : am_sw _ _ _ _); conv => whnf)
    | refine And.intro trivial ?_
    | exact trivial
    | refine x_has1 _ f0 f1 (fun y0 y1 => ?_) (fun y => ?_)
    | refine x_refuseLong _ ?_ (fun μr fr => ?_)
    | refine x_noPart _ cw (fun z => ?_) (fun z => ?_)
    | (refine s_leagueWays _ ci hS hw (by omega) (by omega) (fun μ1 g1 n15 n29 => ?_); have sE : sx ν μ1 := sx_ad hS (fun a b q1 q2 q3 _ => g1 a b q1 q2 q3) n15 n29)
    | (rw [cl]; refine s_fraction _ _ _ 4 cw lb.1 (by omega) rfl (by decide) (by decide) ?_)
    | refine kk _ _ sE ?_
    | refine kk _ _ (sx_78 hS fr) ?_
    | refine And.intro (fun h => absurd h (by decide)) (fun _ => ?_)
    | refine And.intro (fun _ => ?_) (fun h => absurd (by decide) h)
    | refine And.intro (fun _ => ?_) (fun _ => ?_)
    | refine And.intro ?_ ?_
  all_goals (first | decide | omega | (unfold fp_lgr; rw [e4, if_pos (by omega)]; rfl) | (unfold fp_lgr; rw [e4, if_neg (by omega), if_pos (by omega)]; rfl) | (unfold fp_lgr; rw [e4, if_neg (by omega), if_neg (by omega)]) | (trace_state; fail))
theorem n_league {l : Launch} {ν : am_N} {Q : Option am_V → am_N → Prop} (i w : Int) (ci : am_c i = i) (cw : am_c w = w) (hm : mi ν) (hw : fp_fw 999 (mv ν)) (k : ∀ μ' : am_N, gm ms ν μ' → Q (some (.inr (.inl (fp_lgr (mv ν) i w)))) μ') : am_Does l 223 [.inr (.inr 83), .inl i, .inl w] ν Q := by
  refine am_Does_of (Nat.le_of_ble_eq_true rfl) (Nat.le_of_ble_eq_true rfl) (Nat.le_of_ble_eq_true rfl) ?_
  have l0 : am_c 0 = 0 := rfl
  have l1 : am_c 1 = 1 := rfl
  have l2 : am_c 2 = 2 := rfl
  have l3 : am_c 3 = 3 := rfl
  have l4 : am_c 4 = 4 := rfl
  have l8 : am_c 8 = 8 := rfl
  have l16 : am_c 16 = 16 := rfl
  have l99 : am_c 99 = 99 := rfl
  have m1' : am_c (-1) = -1 := rfl
  have m2' : am_c (-2) = -2 := rfl
  have m3' : am_c (-3) = -3 := rfl
  have m9' : am_c (-9) = -9 := rfl
  obtain ⟨hf, -, -, -, -, -, hx⟩ := fw_M hw (by decide)
  have f0 := hf.1.1
  have f1 := hf.1.2
  have e4 : mv ν 0 4 = ν 83 14 := rfl
  have cn : am_c (ν 83 14) = ν 83 14 := am_cR (by omega) (by omega)
  have lb := fp_lp_b (mv ν) i.toNat (ν 83 14).toNat
  have cl : am_c (fp_lp (mv ν) i.toNat (ν 83 14).toNat) = fp_lp (mv ν) i.toNat (ν 83 14).toNat := am_cR (by omega) (by omega)
  have kk := fun (x : Int) (μ' : am_N) (h : gm ms ν μ') (e : x = fp_lgr (mv ν) i w) => am_qd (k μ' h) e
  refine am_go (ct := fun _ => false) am_oX7_league 300 ?_
  conv => whnf
  repeat' first
    | (refine (?_ : am_wp _ _ _ _ _ _ _ _ _ _ _ _); conv => whnf)
    | (refine (?_ : am_sw _ _ _ _); conv => whnf)
    | refine And.intro trivial ?_
    | exact trivial
    | refine x_isRunnerT _ f0 f1 (fun y0 y1 => ?_) (fun y => ?_)
    | refine x_isIn w _ _ _ rfl cw ?_ ?_ (fun _ _ => ?_) (fun _ => ?_)
    | refine x_lowest _ ?_ (fun μr fr => ?_)
    | refine n_leaguePoints _ ci hw (by omega) (by omega) ?_
    | (rw [cl]; refine n_partOf _ _ _ cw lb.1 (by omega) (by decide) (by decide) ?_)
    | refine kk _ _ (gm_rf hm) ?_
    | refine kk _ _ (mi_84 hm fr) ?_
    | refine And.intro (fun h => absurd h (by omega)) (fun _ => ?_)
    | refine And.intro (fun _ => ?_) (fun h => absurd h (by omega))
    | refine And.intro (fun h => absurd h (by decide)) (fun _ => ?_)
    | refine And.intro (fun _ => ?_) (fun h => absurd (by decide) h)
    | refine And.intro (fun _ => ?_) (fun _ => ?_)
    | refine And.intro ?_ ?_
  all_goals (first | decide | omega | (unfold fp_lgr; rw [e4, if_pos (by omega)]; rfl) | (unfold fp_lgr; rw [e4, if_neg (by omega), if_pos (by omega)]; rfl) | (unfold fp_lgr; rw [e4, if_neg (by omega), if_neg (by omega)]) | (trace_state; fail))
/-- the order hangs on the takes of those who run -/
theorem fp_od_i2 {t u : Nat → Int} {n : Int} {p : Nat} (hn : n ≤ 4) (hp : (p : Int) < n) (h : ∀ q : Nat, (q : Int) < n → t q = u q) : fp_od t n (p : Int) = fp_od u n (p : Int) := by
  obtain ⟨i, hi, hc⟩ := am_cnt_s t (m := n.toNat) (by omega) p (by omega)
  have e : am_cnt t i n.toNat = am_cnt u i n.toNat := am_cnt_t (n := n.toNat) hi (fun j hj => h j (by omega)) _ (Nat.le_refl _)
  rw [fp_od_i hn (by omega) hc, fp_od_i hn (by omega) (e ▸ hc)]
theorem s_ranks {l : Launch} {ν : am_N} {Q : Option am_V → am_N → Prop} (hS : sx ν ν) (hw : fp_fw 999 (fv ν 1)) (k : ∀ μ' : am_N, sx ν μ' → Q (some (.inl (fp_rkr (fv ν 1)))) μ') : am_Does l 98 [.inr (.inr 0)] ν Q := by
  refine am_Does_of (Nat.le_of_ble_eq_true rfl) (Nat.le_of_ble_eq_true rfl) (Nat.le_of_ble_eq_true rfl) ?_
  have l0 : am_c 0 = 0 := rfl
  have l1 : am_c 1 = 1 := rfl
  have l2 : am_c 2 = 2 := rfl
  have l3 : am_c 3 = 3 := rfl
  have l4 : am_c 4 = 4 := rfl
  have l8 : am_c 8 = 8 := rfl
  have l16 : am_c 16 = 16 := rfl
  have l99 : am_c 99 = 99 := rfl
  have m1' : am_c (-1) = -1 := rfl
  have m2' : am_c (-2) = -2 := rfl
  have m3' : am_c (-3) = -3 := rfl
  have m9' : am_c (-9) = -9 := rfl
  obtain ⟨hf, -, -, -, -, -, hx⟩ := fw_C hw (by decide)
  have f0 := hf.1.1
  have f1 := hf.1.2
  have e4 : fv ν 1 0 4 = ν 1 4 := fv_0 (by decide)
  have cn : am_c (ν 1 4) = ν 1 4 := am_cR (by omega) (by omega)
  have h15 := hS.2.2.2.1
  have et : ∀ q : Nat, fp_rkt (fv ν 1) q = -(fp_lp (fv ν 1) q (ν 1 4).toNat) := fun q => by unfold fp_rkt; rw [e4]
  have kk := fun (x : Int) (μ' : am_N) (h : sx ν μ') (e : x = fp_rkr (fv ν 1)) => am_qe (k μ' h) e
  have lp2 : ∀ (m : Nat) (i : Int) (μ : am_N) , (∀ a b, ¬(15 ≤ a ∧ a < 22) → ¬(30 ≤ a ∧ a ≤ 33) → ¬(a = 29 ∧ b = 0) → μ a b = ν a b) → 0 ≤ i → i ≤ ν 1 4 → (∀ q : Nat, (q : Int) < i → μ 33 q = fp_rkt (fv ν 1) q) → (0 ≤ μ 15 4 ∧ μ 15 4 ≤ 4) → (0 ≤ μ 29 0 ∧ μ 29 0 ≤ 4) → ν 1 4 - i < (m : Int) → am_AW l 0 (fun _ => 0) 98 Q 2 [some (.inr (.inr 0)), some (.inl i)] [] μ := by
    intro m
    induction m with
    | zero =>
      intro i μ hv0 hv1 hv2 hv3 hv4 hv5 hm
      exfalso
      omega
    | succ m ih =>
      intro i μ hv0 hv1 hv2 hv3 hv4 hv5 hm
      have ci : am_c i = i := am_cR (by omega) (by omega)
      have e14 : μ 1 4 = ν 1 4 := hv0 1 4 (by omega) (by omega) (by omega)
      have eF : fv μ 1 = (fv ν 1) := fv_keep (fun a b q1 q2 => hv0 a b (by omega) (by omega) (by omega))
      have p34 : sx_3 μ 34 := fun p hp => by rw [hv0 34 p (by omega) (by omega) (by omega)]; exact hS.2.1 p hp
      have sE : sx ν μ := sx_rk hS (fun a b q1 q2 q3 _ => hv0 a b q1 (by omega) q3) hv4 hv5 p34
      have sM : sx μ μ := sx_rf sE.2.1 sE.2.2.1 sE.2.2.2.1 (sx_px sE)
      refine am_go (ct := fun pc => Nat.beq pc 2) am_oX6_ranks 300 ?_
      conv => whnf
      repeat' first
        | (refine (?_ : am_wp _ _ _ _ _ _ _ _ _ _ _ _); conv => whnf)
        | (refine (?_ : am_sw _ _ _ _); conv => whnf)
        | refine And.intro trivial ?_
        | exact trivial
        | (have hi : i < ν 1 4 := (by rw [ci, e14, cn] at *; omega); refine s_leagueWays _ ci sM (by rw [eF]; exact hw) hv1 (by rw [e14]; exact hi) (fun μ2 g2 n15 n29 => ?_); rw [eF, e14])
        | (have ie : i = ν 1 4 := (by rw [ci, e14, cn] at *; omega); have m29 : am_up μ 29 0 (μ 1 4) 29 0 = ν 1 4 := (if_pos ⟨rfl, rfl⟩ : am_up μ 29 0 (μ 1 4) 29 0 = μ 1 4).trans e14; refine x_line (by rw [m29]; exact f0) (by rw [m29]; exact f1) (fun j hj => by rw [m29] at hj; rw [am_upN (by decide), hv3 j (by omega), et]; have z := fp_lp_b (fv ν 1) j (ν 1 4).toNat; omega) (fun μ3 y1 y2 y3 => ?_); have n3 : μ3 29 0 = ν 1 4 := (by rw [y1 29 0 (by decide)]; exact (show am_up μ 29 0 (μ 1 4) 29 0 = ν 1 4 from (if_pos ⟨rfl, rfl⟩ : am_up μ 29 0 (μ 1 4) 29 0 = μ 1 4).trans e14)); rw [m29] at y2; have sF : sx ν μ3 := sx_rk hS (fun a b q1 q2 q3 _ => by rw [y1 a b (by omega), am_uE q3]; exact hv0 a b q1 (by omega) q3) (by rw [y1 15 4 (by decide), am_upN (by decide)]; exact hv4) (by rw [n3]; exact ⟨f0, f1⟩) (y3 (sx_3N p34 (by decide))))
        | (refine x_digits (by rw [n3]; exact f0) (by rw [n3]; exact f1) ?_)
        | refine kk _ _ sF ?_
        | refine ih _ _ ?_ ?_ ?_ ?_ ?_ ?_ ?_
        | refine And.intro (fun h => absurd h (by decide)) (fun _ => ?_)
        | refine And.intro (fun _ => ?_) (fun h => absurd (by decide) h)
        | refine And.intro (fun _ => ?_) (fun _ => ?_)
        | refine And.intro ?_ ?_
      all_goals (first | decide | omega | (rw [ci]; omega) | (intro a b q1 q2 q3; rw [am_upN (show a ≠ 33 by omega), g2 a b q1 (by omega) q3]; exact hv0 a b q1 q2 q3) | (intro q hq; by_cases d : (q : Int) = i; (rw [am_upS, if_pos ⟨rfl, by rw [ci]; omega⟩, et, show i.toNat = q by omega]); (rw [am_upM (by rw [ci]; omega), g2 33 q (by omega) (by omega) (by omega)]; exact hv3 q (by omega))) | (rw [am_upN (by decide)]; first | exact n15 | exact n15.1 | exact n15.2) | (rw [am_upN (by decide)]; first | exact n29 | exact n29.1 | exact n29.2) | (rw [m29]; omega) | (rw [show am_up μ 29 0 (μ 1 4) 29 0 = ν 1 4 from (if_pos ⟨rfl, rfl⟩ : am_up μ 29 0 (μ 1 4) 29 0 = μ 1 4).trans e14]; omega) | (intro j hj; rw [show am_up μ 29 0 (μ 1 4) 29 0 = ν 1 4 from (if_pos ⟨rfl, rfl⟩ : am_up μ 29 0 (μ 1 4) 29 0 = μ 1 4).trans e14] at hj; rw [am_upN (by decide), hv3 j (by omega), et]; have z := fp_lp_b (fv ν 1) j (ν 1 4).toNat; omega) | (unfold fp_rkr; rw [n3, e4]; refine am_dg_eq _ _ (fun p hp => ?_); rw [fp_od_o f1 y2 p (by omega)]; refine fp_od_i2 f1 (by omega) (fun q hq => ?_); rw [am_upN (by decide)]; exact hv3 q (by omega)) | (trace_state; fail))
  have lp2' : ∀ (i : Int) (μ : am_N) , (∀ a b, ¬(15 ≤ a ∧ a < 22) → ¬(30 ≤ a ∧ a ≤ 33) → ¬(a = 29 ∧ b = 0) → μ a b = ν a b) → 0 ≤ i → i ≤ ν 1 4 → (∀ q : Nat, (q : Int) < i → μ 33 q = fp_rkt (fv ν 1) q) → (0 ≤ μ 15 4 ∧ μ 15 4 ≤ 4) → (0 ≤ μ 29 0 ∧ μ 29 0 ≤ 4) → am_AW l 0 (fun _ => 0) 98 Q 2 [some (.inr (.inr 0)), some (.inl i)] [] μ := fun i μ hv0 hv1 hv2 hv3 hv4 hv5 => lp2 ((ν 1 4 - i) + 1).toNat i μ hv0 hv1 hv2 hv3 hv4 hv5 (by omega)
  refine am_go (ct := fun pc => Nat.beq pc 2) am_oX6_ranks 300 ?_
  conv => whnf
  repeat' first
    | (refine (?_ : am_wp _ _ _ _ _ _ _ _ _ _ _ _); conv => whnf)
    | (refine (?_ : am_sw _ _ _ _); conv => whnf)
    | refine And.intro trivial ?_
    | exact trivial
    | refine lp2' _ _ ?_ ?_ ?_ ?_ ?_ ?_
    | refine And.intro (fun h => absurd h (by decide)) (fun _ => ?_)
    | refine And.intro (fun _ => ?_) (fun h => absurd (by decide) h)
    | refine And.intro (fun _ => ?_) (fun _ => ?_)
    | refine And.intro ?_ ?_
  all_goals (first | decide | assumption | omega | rfl | (intros; rfl) | (intros; omega) | exact h15.2.1 | exact h15.2.1.1 | exact h15.2.1.2 | exact h15.2.2.1 | exact h15.2.2.1.1 | exact h15.2.2.1.2 | (trace_state; fail))
theorem n_ranks {l : Launch} {ν : am_N} {Q : Option am_V → am_N → Prop} (hm : mi ν) (hw : fp_fw 999 (mv ν)) (k : ∀ μ' : am_N, gm ms ν μ' → Q (some (.inl (fp_rkr (mv ν)))) μ') : am_Does l 224 [.inr (.inr 83)] ν Q := by
  refine am_Does_of (Nat.le_of_ble_eq_true rfl) (Nat.le_of_ble_eq_true rfl) (Nat.le_of_ble_eq_true rfl) ?_
  have l0 : am_c 0 = 0 := rfl
  have l1 : am_c 1 = 1 := rfl
  have l2 : am_c 2 = 2 := rfl
  have l3 : am_c 3 = 3 := rfl
  have l4 : am_c 4 = 4 := rfl
  have l8 : am_c 8 = 8 := rfl
  have l16 : am_c 16 = 16 := rfl
  have l99 : am_c 99 = 99 := rfl
  have m1' : am_c (-1) = -1 := rfl
  have m2' : am_c (-2) = -2 := rfl
  have m3' : am_c (-3) = -3 := rfl
  have m9' : am_c (-9) = -9 := rfl
  obtain ⟨hf, -, -, -, -, -, hx⟩ := fw_M hw (by decide)
  have f0 := hf.1.1
  have f1 := hf.1.2
  have e4 : mv ν 0 4 = ν 83 14 := rfl
  have cn : am_c (ν 83 14) = ν 83 14 := am_cR (by omega) (by omega)
  have hm0 := hm
  have et : ∀ q : Nat, fp_rkt (mv ν) q = -(fp_lp (mv ν) q (ν 83 14).toNat) := fun q => rfl
  have kk := fun (x : Int) (μ' : am_N) (h : gm ms ν μ') (e : x = fp_rkr (mv ν)) => am_qe (k μ' h) e
  have lp2 : ∀ (m : Nat) (i : Int) (μ : am_N) , (∀ a b, a ≠ 99 → μ a b = ν a b) → 0 ≤ i → i ≤ ν 83 14 → (∀ q : Nat, (q : Int) < i → μ 99 q = fp_rkt (mv ν) q) → ν 83 14 - i < (m : Int) → am_AW l 0 (fun _ => 0) 224 Q 2 [some (.inr (.inr 83)), some (.inl i)] [] μ := by
    intro m
    induction m with
    | zero =>
      intro i μ hv0 hv1 hv2 hv3 hm
      exfalso
      omega
    | succ m ih =>
      intro i μ hv0 hv1 hv2 hv3 hm
      have ci : am_c i = i := am_cR (by omega) (by omega)
      have e14 : μ 83 14 = ν 83 14 := hv0 83 14 (by decide)
      have eF : mv μ = (mv ν) := mv_keep (fun a b q => hv0 a b (by omega))
      refine am_go (ct := fun pc => Nat.beq pc 2) am_oX7_ranks 300 ?_
      conv => whnf
      repeat' first
        | (refine (?_ : am_wp _ _ _ _ _ _ _ _ _ _ _ _); conv => whnf)
        | (refine (?_ : am_sw _ _ _ _); conv => whnf)
        | refine And.intro trivial ?_
        | exact trivial
        | (have hi : i < ν 83 14 := (by rw [ci, e14, cn] at *; omega); refine n_leaguePoints _ ci (by rw [eF]; exact hw) hv1 (by rw [e14]; exact hi) ?_; rw [eF, e14])
        | (have ie : i = ν 83 14 := (by rw [ci, e14, cn] at *; omega); refine x_sorts (by rw [e14]; exact f0) (by rw [e14]; exact f1) (fun j hj => by rw [e14] at hj; rw [hv3 j (by omega), et]; have z := fp_lp_b (mv ν) j (ν 83 14).toNat; omega) (fun μ3 y1 y2 y3 => ?_); have n3 : μ3 83 14 = ν 83 14 := (y1 83 14 (by decide)).trans e14; rw [e14] at y2; have sF : gm ms ν μ3 := ⟨mi_rc hm0 (fun a b q => (y1 a b (by omega)).trans (hv0 a b (by omega))) (y3 (fun p hp => by rw [hv0 100 p (by decide)]; exact mi_or hm0 p hp)), fun a b ha => (y1 a b (fun z => by rw [z] at ha; cases ha)).trans (hv0 a b (fun z => by rw [z] at ha; cases ha))⟩)
        | (refine x_mdigits (by rw [n3]; exact f0) (by rw [n3]; exact f1) ?_)
        | refine kk _ _ sF ?_
        | refine ih _ _ ?_ ?_ ?_ ?_ ?_
        | refine And.intro (fun h => absurd h (by decide)) (fun _ => ?_)
        | refine And.intro (fun _ => ?_) (fun h => absurd (by decide) h)
        | refine And.intro (fun _ => ?_) (fun _ => ?_)
        | refine And.intro ?_ ?_
      all_goals (first | decide | omega | (rw [ci]; omega) | (intro a b q1; rw [am_upN q1]; exact hv0 a b q1) | (intro q hq; by_cases d : (q : Int) = i; (rw [am_upS, if_pos ⟨rfl, by rw [ci]; omega⟩, et, show i.toNat = q by omega]); (rw [am_upM (by rw [ci]; omega)]; exact hv3 q (by omega))) | (rw [e14]; omega) | (intro j hj; rw [e14] at hj; rw [hv3 j (by omega), et]; have z := fp_lp_b (mv ν) j (ν 83 14).toNat; omega) | (unfold fp_rkr; rw [n3, e4]; refine am_dg_eq _ _ (fun p hp => ?_); rw [fp_od_o f1 y2 p (by omega)]; exact fp_od_i2 f1 (by omega) (fun q hq => hv3 q (by omega))) | (trace_state; fail))
  have lp2' : ∀ (i : Int) (μ : am_N) , (∀ a b, a ≠ 99 → μ a b = ν a b) → 0 ≤ i → i ≤ ν 83 14 → (∀ q : Nat, (q : Int) < i → μ 99 q = fp_rkt (mv ν) q) → am_AW l 0 (fun _ => 0) 224 Q 2 [some (.inr (.inr 83)), some (.inl i)] [] μ := fun i μ hv0 hv1 hv2 hv3 => lp2 ((ν 83 14 - i) + 1).toNat i μ hv0 hv1 hv2 hv3 (by omega)
  refine am_go (ct := fun pc => Nat.beq pc 2) am_oX7_ranks 300 ?_
  conv => whnf
  repeat' first
    | (refine (?_ : am_wp _ _ _ _ _ _ _ _ _ _ _ _); conv => whnf)
    | (refine (?_ : am_sw _ _ _ _); conv => whnf)
    | refine And.intro trivial ?_
    | exact trivial
    | refine lp2' _ _ ?_ ?_ ?_ ?_
    | refine And.intro (fun h => absurd h (by decide)) (fun _ => ?_)
    | refine And.intro (fun _ => ?_) (fun h => absurd (by decide) h)
    | refine And.intro (fun _ => ?_) (fun _ => ?_)
    | refine And.intro ?_ ?_
  all_goals (first | decide | assumption | omega | rfl | (intros; rfl) | (intros; omega) | (trace_state; fail))
