/-! how uneven a field is -/
theorem fp_wa_c (L M H : Nat → Int) (i : Nat) (t : Int) : ∀ n : Nat, i < n → fp_wa L M H i t n * 4 ≤ (4 ^ n : Nat) := by
  intro n
  induction n with
  | zero => intro h; exact absurd h (by omega)
  | succ n ih =>
    intro h
    have e : (((4 ^ (n + 1) : Nat)) : Int) = (4 ^ n : Nat) * 4 := by rw [Nat.pow_succ]; omega
    simp only [fp_wa]
    by_cases d : n = i
    · rw [if_pos d, e]
      have q := fp_wa_b L M H i t n
      omega
    · rw [if_neg d, e]
      have q := fp_qu_b (L n) (M n) (H n) (if n < i then t + 1 else t)
      have p := fp_wa_b L M H i t n
      have z := am_mulb (a := fp_wa L M H i t n * 4) (by omega) (ih (by omega)) q.1 q.2
      rw [Int.mul_right_comm]
      exact z.2
theorem fp_lw_c {F : am_N} {r : Nat} (h4 : F 0 4 ≤ 4) (hr : (r : Int) < F 0 4) : 0 ≤ fp_lw F r ∧ fp_lw F r ≤ 256 := by
  have b := fp_lw_b h4 r
  have q := fun t => fp_wa_c (fun q => fp_pt (fp_tf F q) (F 4 q) 0) (fp_tf F) (fun q => fp_tf F q + F 4 q) r t (F 0 4).toNat (by omega)
  have a1 := q (fp_pt (fp_tf F r) (F 4 r) 0)
  have a2 := q (fp_tf F r)
  have a3 := q (fp_tf F r + F 4 r)
  have p : ((4 ^ (F 0 4).toNat : Nat) : Int) ≤ 256 := by
    rcases (show (F 0 4).toNat = 0 ∨ (F 0 4).toNat = 1 ∨ (F 0 4).toNat = 2 ∨ (F 0 4).toNat = 3 ∨ (F 0 4).toNat = 4 by omega) with z | z | z | z | z <;> rw [z] <;> decide
  refine ⟨b.1, ?_⟩
  unfold fp_lw fp_wy
  simp only
  omega
def fp_wd (F : am_N) (w : Int) : am_N := fp_ct (am_up F 0 0 w)
theorem fw_wd {W : Int} {F : am_N} {w : Int} (h : fp_fw W F) (hw : 20 ≤ w ∧ w ≤ 200) : fp_fw W (fp_wd F w) := fw_ct (fw_way h hw)
/-- the first WAY from w on, m tries -/
def fp_lq (F : am_N) (i : Nat) : Nat → Int → Int
  | 0, _ => -9
  | m + 1, w => if fp_al2 F ≤ 2 * fp_lw (fp_wd F w) i then w else fp_lq F i m (w + 1)
def fp_lgw (F : am_N) (i : Int) : Int := if ¬(0 ≤ i ∧ i < F 0 4) then -1 else fp_lq F i.toNat 181 20
theorem fp_lq_s {F : am_N} {i : Nat} {w : Int} (h : w ≤ 200) : fp_lq F i (201 - w).toNat w = if fp_al2 F ≤ 2 * fp_lw (fp_wd F w) i then w else fp_lq F i (201 - (w + 1)).toNat (w + 1) := by
  rw [show (201 - w).toNat = (201 - (w + 1)).toNat + 1 by omega]
  rfl
theorem fp_wd8 {μ μ2 : am_N} {v : Int} (g : ∀ b, b ≠ 0 → μ2 8 b = μ 8 b) (g' : ∀ a b, 8 < a → a < 15 → μ2 a b = μ a b) : fv (am_up μ2 8 0 v) 8 = fv (am_up μ 8 0 v) 8 := by
  refine fp_ct_e (fun b hb => ?_) (fun a b q1 q2 hb => ?_)
  · by_cases d : b = 0
    · subst d
      rfl
    · rw [am_upM d, am_upM d]
      exact g b d
  · rw [am_upN (by omega), am_upN (by omega)]
    exact g' _ b (by omega) (by omega)
theorem fp_wd9 {μ μ2 : am_N} {s : Int} {G : Int → am_N} (g2 : ∀ a b : Nat, ¬(30 ≤ a ∧ a ≤ 32) → ¬(a = 29 ∧ b = 0) → μ2 a b = am_up μ 8 0 s a b) (h : ∀ v : Int, fv (am_up μ 8 0 v) 8 = G v) : ∀ v : Int, fv (am_up μ2 8 0 v) 8 = G v := by
  intro v
  refine Eq.trans (fp_wd8 (μ := μ) (μ2 := μ2) (v := v) (fun b d => ?_) (fun a b q1 q2 => ?_)) (h v)
  · exact (g2 8 b (by omega) (by omega)).trans (am_upM d)
  · exact (g2 a b (by omega) (by omega)).trans (am_upN (by omega))
theorem sx_l8 {ν μ : am_N} (hS : sx ν ν) (f : ∀ a b, ¬(8 ≤ a ∧ a < 15) → ¬(30 ≤ a ∧ a ≤ 32) → ¬(a = 29 ∧ b = 0) → μ a b = ν a b) (h8 : 0 ≤ μ 8 4 ∧ μ 8 4 ≤ 4) (h29 : 0 ≤ μ 29 0 ∧ μ 29 0 ≤ 4) : sx ν μ := by
  refine ⟨fun a b ha => f a b (fun z => ?_) (fun z => sx_p30 ha (by omega)) (fun z => sx_p30 ha (by omega)), fun p hp => ?_, fun p hp => ?_, ⟨h8, ?_, h29, ?_⟩, hS.2.2.2.2⟩
  · rcases (show a = 8 ∨ a = 9 ∨ a = 10 ∨ a = 11 ∨ a = 12 ∨ a = 13 ∨ a = 14 by omega) with rfl | rfl | rfl | rfl | rfl | rfl | rfl <;> cases ha
  · rw [f 34 p (by omega) (by omega) (by omega)]; exact hS.2.1 p hp
  · rw [f 43 p (by omega) (by omega) (by omega)]; exact hS.2.2.1 p hp
  · rw [f 15 4 (by omega) (by omega) (by omega)]; exact hS.2.2.2.1.2.1
  · rw [f 38 0 (by omega) (by omega) (by omega)]; exact hS.2.2.2.1.2.2.2
theorem fp_lw_C8 {ν μ : am_N} {i : Nat} (n4 : ν 8 4 ≤ 4) (hi : (i : Int) < ν 8 4) (d0 : μ 29 0 = ν 8 4) (dr : ∀ q : Nat, (q : Int) < ν 8 4 → μ 30 q = fp_pt (am_TC ν 8 q) (ν 12 q) 0 ∧ μ 31 q = am_TC ν 8 q ∧ μ 32 q = am_TC ν 8 q + ν 12 q) : fp_wy (μ 30) (μ 31) (μ 32) (μ 29 0).toNat i = fp_lw (fv ν 8) i := by
  unfold fp_lw
  rw [d0, fv_0 (by decide)]
  refine fp_wy_e (by omega) (fun j hj => ?_)
  obtain ⟨q0, q1, q2⟩ := dr j (by omega)
  have t : am_TC ν 8 j = fp_tf (fv ν 8) j := fv_T (by omega)
  have s : fv ν 8 4 j = ν 12 j := fv_a (by decide) (by decide) (by omega)
  rw [q0, q1, q2, t, s]
  exact ⟨rfl, rfl, rfl⟩
theorem x_draw_8 {l : Launch} {ν : am_N} {Q : Option am_V → am_N → Prop} (hf : am_fC ν 8) (hs : ∀ q : Nat, (q : Int) < ν 8 4 → 0 ≤ ν 12 q ∧ ν 12 q ≤ 20) (k : ∀ μ' : am_N, (∀ a b, ¬(30 ≤ a ∧ a ≤ 32) → ¬(a = 29 ∧ b = 0) → μ' a b = ν a b) → μ' 29 0 = ν 8 4 → (∀ q : Nat, (q : Int) < ν 8 4 → μ' 30 q = fp_pt (am_TC ν 8 q) (ν 12 q) 0 ∧ μ' 31 q = am_TC ν 8 q ∧ μ' 32 q = am_TC ν 8 q + ν 12 q) → Q none μ') : am_Does l 21 [.inr (.inr 29), .inr (.inr 8)] ν Q := by
  refine am_Does_of (Nat.le_of_ble_eq_true rfl) (Nat.le_of_ble_eq_true rfl) (Nat.le_of_ble_eq_true rfl) ?_
  have l0 : am_c 0 = 0 := rfl
  have l1 : am_c 1 = 1 := rfl
  have l2 : am_c 2 = 2 := rfl
  have l3 : am_c 3 = 3 := rfl
  have l4 : am_c 4 = 4 := rfl
  have l16 : am_c 16 = 16 := rfl
  have hn := hf.1
  have hq := @am_TC_b ν 8
  have lp10 : ∀ (m : Nat) (i : Int) (μ : am_N) , (∀ a b, ¬(30 ≤ a ∧ a ≤ 32) → ¬(a = 29 ∧ b = 0) → μ a b = ν a b) → μ 29 0 = ν 8 4 → 0 ≤ i → i ≤ ν 8 4 → (∀ q : Nat, (q : Int) < i → μ 30 q = fp_pt (am_TC ν 8 q) (ν 12 q) 0 ∧ μ 31 q = am_TC ν 8 q ∧ μ 32 q = am_TC ν 8 q + ν 12 q) → ν 8 4 - i < (m : Int) → am_AW l 0 (fun _ => 0) 21 Q 10 [some (.inr (.inr 29)), some (.inr (.inr 8)), some (.inl i)] [] μ := by
    intro m
    induction m with
    | zero =>
      intro i μ hv0 hv1 hv2 hv3 hv4 hm
      exfalso
      omega
    | succ m ih =>
      intro i μ hv0 hv1 hv2 hv3 hv4 hm
      have ci : am_c i = i := am_cR (by omega) (by omega)
      have cn : am_c (ν 8 4) = ν 8 4 := am_cR (by omega) (by omega)
      obtain ⟨g1, g2⟩ := am_fC_ch (c := 8) (fun a b q1 q2 => hv0 a b (by omega) (by omega))
      have g3 := g1 hf
      have e4 : μ 8 4 = ν 8 4 := hv0 8 4 (by decide) (by decide)
      have eS : μ 12 i.toNat = ν 12 i.toNat := hv0 12 _ (by omega) (by omega)
      have gT := g2 i.toNat
      have eI : (am_c i).toNat = i.toNat := by rw [ci]
      refine am_go (ct := fun pc => Nat.beq pc 10) am_oX2_draw 300 ?_
      conv => whnf
      repeat' first
        | (refine (?_ : am_wp _ _ _ _ _ _ _ _ _ _ _ _); conv => whnf)
        | (refine (?_ : am_sw _ _ _ _); conv => whnf)
        | refine And.intro trivial ?_
        | exact trivial
        | exact g3
        | ((with_reducible refine (?_ : am_Does _ 8 _ _ _)); refine x_tenths_8 _ ?_ ?_ ?_ ?_)
        | ((with_reducible refine (?_ : am_Does _ 22 _ _ _)); (refine x_put _ _ _ ?_ ?_ ?_ ?_ ?_ ?_ (fun μ2 y1 y2 y3 y4 => ?_)))
        | refine k _ ?_ ?_ ?_
        | ((with_reducible refine (?_ : am_AW _ _ _ _ _ 10 _ _ _)); refine ih _ _ ?_ ?_ ?_ ?_ ?_ ?_)
        | refine And.intro (fun h => absurd h (by decide)) (fun _ => ?_)
        | refine And.intro (fun _ => ?_) (fun h => absurd (by decide) h)
        | refine And.intro (fun _ => ?_) (fun _ => ?_)
        | refine And.intro ?_ ?_
      all_goals (first | decide | assumption | omega | (simp only [hv1, ci, cn, e4] at *; omega) | (have hi : i < ν 8 4 := (by simp only [hv1, ci, cn, e4] at *; omega); have z1 := @hq i.toNat hf (by omega); have z2 := hs i.toNat (by omega); simp only [eI, eS, gT]; omega) | (intro a b h1 h2; rw [y1 a b (by omega)]; exact hv0 a b h1 h2) | (rw [y1 29 0 (by omega)]; exact hv1) | (intro q hq; by_cases d : (q : Int) = i; (rw [show q = i.toNat by omega, y2, y3, y4]; refine ⟨?_, ?_, ?_⟩ <;> simp only [eI, eS, gT]); (rw [y1 30 q (by omega), y1 31 q (by omega), y1 32 q (by omega)]; exact hv4 q (by omega))) | (intro q hq; exact hv4 q (by simp only [hv1, ci, cn, e4] at *; omega)) | (trace_state; fail))
  have lp10' : ∀ (i : Int) (μ : am_N) , (∀ a b, ¬(30 ≤ a ∧ a ≤ 32) → ¬(a = 29 ∧ b = 0) → μ a b = ν a b) → μ 29 0 = ν 8 4 → 0 ≤ i → i ≤ ν 8 4 → (∀ q : Nat, (q : Int) < i → μ 30 q = fp_pt (am_TC ν 8 q) (ν 12 q) 0 ∧ μ 31 q = am_TC ν 8 q ∧ μ 32 q = am_TC ν 8 q + ν 12 q) → am_AW l 0 (fun _ => 0) 21 Q 10 [some (.inr (.inr 29)), some (.inr (.inr 8)), some (.inl i)] [] μ := fun i μ hv0 hv1 hv2 hv3 hv4 => lp10 ((ν 8 4 - i) + 1).toNat i μ hv0 hv1 hv2 hv3 hv4 (by omega)
  refine am_go (ct := fun pc => Nat.beq pc 10) am_oX2_draw 300 ?_
  conv => whnf
  repeat' first
    | (refine (?_ : am_wp _ _ _ _ _ _ _ _ _ _ _ _); conv => whnf)
    | (refine (?_ : am_sw _ _ _ _); conv => whnf)
    | refine And.intro trivial ?_
    | exact trivial
    | ((with_reducible refine (?_ : am_AW _ _ _ _ _ 10 _ _ _)); refine lp10' _ _ ?_ ?_ ?_ ?_ ?_)
    | refine And.intro (fun h => absurd h (by decide)) (fun _ => ?_)
    | refine And.intro (fun _ => ?_) (fun h => absurd (by decide) h)
    | refine And.intro (fun _ => ?_) (fun _ => ?_)
    | refine And.intro ?_ ?_
  all_goals (first | decide | assumption | omega | rfl | (intro a b h1 h2; rw [am_upS, if_neg h2]) | (exact if_pos ⟨rfl, rfl⟩) | (intros; omega) | (trace_state; fail))
theorem s_longer {l : Launch} {ν : am_N} {Q : Option am_V → am_N → Prop} (i : Int) (ci : am_c i = i) (hS : sx ν ν) (hw : fp_fw 999 (fv ν 1)) (k : ∀ μ' : am_N, sx ν μ' → Q (some (.inl (fp_lgw (fv ν 1) i))) μ') : am_Does l 83 [.inr (.inr 0), .inl i] ν Q := by
  refine am_Does_of (Nat.le_of_ble_eq_true rfl) (Nat.le_of_ble_eq_true rfl) (Nat.le_of_ble_eq_true rfl) ?_
  have l0 : am_c 0 = 0 := rfl
  have l1 : am_c 1 = 1 := rfl
  have l2 : am_c 2 = 2 := rfl
  have l4 : am_c 4 = 4 := rfl
  have l9 : am_c 9 = 9 := rfl
  have l10 : am_c 10 = 10 := rfl
  have l20 : am_c 20 = 20 := rfl
  have l200 : am_c 200 = 200 := rfl
  have l999 : am_c 999 = 999 := rfl
  have m1' : am_c (-1) = -1 := rfl
  have m2' : am_c (-2) = -2 := rfl
  have m3' : am_c (-3) = -3 := rfl
  have m9' : am_c (-9) = -9 := rfl
  obtain ⟨hf, -, -, -, -, -, hx⟩ := fw_C hw (by decide)
  have f0 := hf.1.1
  have f1 := hf.1.2
  have e4 : fv ν 1 0 4 = ν 1 4 := fv_0 (by decide)
  have cn : am_c (ν 1 4) = ν 1 4 := am_cR (by omega) (by omega)
  have h15 := hS.2.2.2.1
  have al := fp_al2_b f0 f1
  have ea : fp_al2 (fv ν 1) = am_shl 1 (2 * ν 1 4) := by unfold fp_al2; rw [e4]
  have kk := fun (x : Int) (μ' : am_N) (h : sx ν μ') (e : x = fp_lgw (fv ν 1) i) => am_qe (k μ' h) e
  have lp31 : ∀ (m : Nat) (s : Int) (μ : am_N) , (∀ a b, ¬(8 ≤ a ∧ a < 15) → ¬(30 ≤ a ∧ a ≤ 32) → ¬(a = 29 ∧ b = 0) → μ a b = ν a b) → 20 ≤ s → s ≤ 201 → (∀ v : Int, fv (am_up μ 8 0 v) 8 = fp_wd (fv ν 1) v) → μ 8 4 = ν 1 4 → (0 ≤ μ 29 0 ∧ μ 29 0 ≤ 4) → (0 ≤ i ∧ i < ν 1 4) → fp_lq (fv ν 1) i.toNat (201 - s).toNat s = fp_lq (fv ν 1) i.toNat 181 20 → 201 - s < (m : Int) → am_AW l 0 (fun _ => 0) 83 Q 31 [some (.inr (.inr 0)), some (.inl i), some (.inl s)] [] μ := by
    intro m
    induction m with
    | zero =>
      intro s μ hv0 hv1 hv2 hv3 hv4 hv5 hv6 hv7 hm
      exfalso
      omega
    | succ m ih =>
      intro s μ hv0 hv1 hv2 hv3 hv4 hv5 hv6 hv7 hm
      have cs : am_c s = s := am_cR (by omega) (by omega)
      have sE : sx ν μ := sx_l8 hS hv0 (by rw [hv4]; exact ⟨f0, f1⟩) hv5
      have p2 : fv (am_up μ 8 0 s) 8 = fp_wd (fv ν 1) s := hv3 s
      have n8 : am_up μ 8 0 s 8 4 = ν 1 4 := (am_upM (by decide)).trans hv4
      have l4n : fp_wd (fv ν 1) s 0 4 = ν 1 4 := e4
      have lb := fp_lw_c (F := fp_wd (fv ν 1) s) (r := i.toNat) (by rw [l4n]; exact f1) (by rw [l4n]; omega)
      have cl : am_c (2 * fp_lw (fp_wd (fv ν 1) s) i.toNat) = 2 * fp_lw (fp_wd (fv ν 1) s) i.toNat := am_cR (by omega) (by omega)
      have cA : am_c (am_shl 1 (2 * ν 1 4)) = am_shl 1 (2 * ν 1 4) := am_cR (by omega) (by omega)
      refine am_go (ct := fun pc => Nat.beq pc 31) am_oX6_longer 300 ?_
      conv => whnf
      repeat' first
        | (refine (?_ : am_wp _ _ _ _ _ _ _ _ _ _ _ _); conv => whnf)
        | (refine (?_ : am_sw _ _ _ _); conv => whnf)
        | refine And.intro trivial ?_
        | exact trivial
        | ((with_reducible refine (?_ : am_Does _ 21 _ _ _)); (have s9 : s ≤ 200 := (by rw [cs, l200] at *; omega); have w8 : fp_fw 999 (fv (am_up μ 8 0 s) 8) := (by rw [p2]; exact fw_wd hw ⟨hv1, s9⟩); obtain ⟨hf8, -, -, -, -, -, hx8⟩ := fw_C w8 (by decide); have fr8 : ∀ a b, ¬(8 ≤ a ∧ a < 15) → am_up μ 8 0 s a b = μ a b := (fun a b q => am_upN (by omega)); refine x_draw_8 hf8 (fun q hq => (hx8 q hq).2.2.2) (fun μ2 g2 d0 dr => ?_); have hb := fp_rw_b (c := 8) hf8 (fun q hq => (hx8 q hq).2.2.2) d0 dr; have m29 : μ2 29 0 = ν 1 4 := d0.trans n8; have sF : sx ν μ2 := sx_l8 hS (fun a b q1 q2 q3 => (g2 a b q2 q3).trans ((fr8 a b q1).trans (hv0 a b q1 q2 q3))) (by rw [g2 8 4 (by omega) (by omega), n8]; exact ⟨f0, f1⟩) (by rw [m29]; exact ⟨f0, f1⟩)))
        | ((with_reducible refine (?_ : am_Does _ 24 _ _ _)); (refine x_ways i (by omega) (by rw [m29]; omega) (by rw [m29]; exact f1) hb ?_; rw [fp_lw_C8 (by rw [n8]; exact f1) (by rw [n8]; omega) d0 dr, p2]))
        | ((with_reducible refine (?_ : am_Does _ 23 _ _ _)); (refine s_allWays ?_; rw [m29]))
        | refine kk _ _ sF ?_
        | refine kk _ _ sE ?_
        | ((with_reducible refine (?_ : am_Does _ 1 _ _ _)); refine x_has1 _ f0 f1 (fun y0 y1 => ?_) (fun y => ?_))
        | ((with_reducible refine (?_ : am_Does _ 113 _ _ _)); refine x_refuse _ ?_ (fun μr fr => ?_))
        | ((with_reducible refine (?_ : am_Does _ 2 _ _ _)); (refine x_take_8_1 (fun μ1 g1 s1 r1 => ?_); have p1 : fv μ1 8 = fv ν 1 := fv_tk s1 r1))
        | refine kk _ _ (sx_78 hS fr) ?_
        | ((with_reducible refine (?_ : am_AW _ _ _ _ _ 31 _ _ _)); refine ih _ _ ?_ ?_ ?_ ?_ ?_ ?_ ?_ ?_ ?_)
        | refine And.intro (fun h => absurd h (by decide)) (fun _ => ?_)
        | refine And.intro (fun _ => ?_) (fun h => absurd (by decide) h)
        | refine And.intro (fun _ => ?_) (fun _ => ?_)
        | refine And.intro ?_ ?_
      all_goals (first | decide | omega | (intro a b q1 q2 q3; exact (g2 a b q2 q3).trans ((fr8 a b q1).trans (hv0 a b q1 q2 q3))) | exact fp_wd9 (G := fp_wd (fv ν 1)) g2 hv3 | (rw [g2 8 4 (by omega) (by omega)]; exact n8) | (rw [m29]; exact ⟨f0, f1⟩) | (rw [m29]; exact f0) | (rw [m29]; exact f1) | (rw [← hv7, fp_lq_s (w := s) (by omega), if_neg (by rw [ea]; simp only [cl, cA] at *; omega)]) | (unfold fp_lgw; rw [e4, if_neg (by omega), ← hv7, fp_lq_s (w := s) (by omega), if_pos (by rw [ea]; simp only [cl, cA] at *; omega)]) | (unfold fp_lgw; rw [e4, if_neg (by omega), ← hv7, show (201 - s).toNat = 0 by rw [cs, l200] at *; omega]; rfl) | (trace_state; fail))
  have lp31' : ∀ (s : Int) (μ : am_N) , (∀ a b, ¬(8 ≤ a ∧ a < 15) → ¬(30 ≤ a ∧ a ≤ 32) → ¬(a = 29 ∧ b = 0) → μ a b = ν a b) → 20 ≤ s → s ≤ 201 → (∀ v : Int, fv (am_up μ 8 0 v) 8 = fp_wd (fv ν 1) v) → μ 8 4 = ν 1 4 → (0 ≤ μ 29 0 ∧ μ 29 0 ≤ 4) → (0 ≤ i ∧ i < ν 1 4) → fp_lq (fv ν 1) i.toNat (201 - s).toNat s = fp_lq (fv ν 1) i.toNat 181 20 → am_AW l 0 (fun _ => 0) 83 Q 31 [some (.inr (.inr 0)), some (.inl i), some (.inl s)] [] μ := fun s μ hv0 hv1 hv2 hv3 hv4 hv5 hv6 hv7 => lp31 ((201 - s) + 1).toNat s μ hv0 hv1 hv2 hv3 hv4 hv5 hv6 hv7 (by omega)
  refine am_go (ct := fun pc => Nat.beq pc 31) am_oX6_longer 300 ?_
  conv => whnf
  repeat' first
    | (refine (?_ : am_wp _ _ _ _ _ _ _ _ _ _ _ _); conv => whnf)
    | (refine (?_ : am_sw _ _ _ _); conv => whnf)
    | refine And.intro trivial ?_
    | exact trivial
    | ((with_reducible refine (?_ : am_Does _ 1 _ _ _)); refine x_has1 _ f0 f1 (fun y0 y1 => ?_) (fun y => ?_))
    | ((with_reducible refine (?_ : am_Does _ 113 _ _ _)); refine x_refuse _ ?_ (fun μr fr => ?_))
    | ((with_reducible refine (?_ : am_Does _ 2 _ _ _)); (refine x_take_8_1 (fun μ1 g1 s1 r1 => ?_); have p1 : fv μ1 8 = fv ν 1 := fv_tk s1 r1))
    | refine kk _ _ (sx_78 hS fr) ?_
    | ((with_reducible refine (?_ : am_AW _ _ _ _ _ 31 _ _ _)); refine lp31' _ _ ?_ ?_ ?_ ?_ ?_ ?_ ?_ ?_)
    | refine And.intro (fun h => absurd h (by decide)) (fun _ => ?_)
    | refine And.intro (fun _ => ?_) (fun h => absurd (by decide) h)
    | refine And.intro (fun _ => ?_) (fun _ => ?_)
    | refine And.intro ?_ ?_
  all_goals (first | decide | assumption | omega | rfl | (intro a b q1 q2 q3; exact g1 a b q1) | (intro v; rw [show fv (am_up μ1 8 0 v) 8 = fp_ct (am_up (fv μ1 8) 0 0 v) from fv_up0, p1]; rfl) | exact s1 4 (by decide) | (rw [g1 29 0 (by omega)]; exact h15.2.2.1) | (rw [g1 29 0 (by omega)]; exact h15.2.2.1.1) | (rw [g1 29 0 (by omega)]; exact h15.2.2.1.2) | (unfold fp_lgw; rw [e4, if_pos (by omega)]) | (trace_state; fail))
theorem n_longer {l : Launch} {ν : am_N} {Q : Option am_V → am_N → Prop} (i : Int) (ci : am_c i = i) (hm : mi ν) (hw : fp_fw 999 (mv ν)) (k : ∀ μ' : am_N, gm ms ν μ' → Q (some (.inl (fp_lgw (mv ν) i))) μ') : am_Does l 211 [.inr (.inr 83), .inl i] ν Q := by
  refine am_Does_of (Nat.le_of_ble_eq_true rfl) (Nat.le_of_ble_eq_true rfl) (Nat.le_of_ble_eq_true rfl) ?_
  have l0 : am_c 0 = 0 := rfl
  have l1 : am_c 1 = 1 := rfl
  have l2 : am_c 2 = 2 := rfl
  have l4 : am_c 4 = 4 := rfl
  have l9 : am_c 9 = 9 := rfl
  have l10 : am_c 10 = 10 := rfl
  have l20 : am_c 20 = 20 := rfl
  have l200 : am_c 200 = 200 := rfl
  have l999 : am_c 999 = 999 := rfl
  have m1' : am_c (-1) = -1 := rfl
  have m2' : am_c (-2) = -2 := rfl
  have m3' : am_c (-3) = -3 := rfl
  have m9' : am_c (-9) = -9 := rfl
  obtain ⟨hf, -, -, -, -, -, hx⟩ := fw_M hw (by decide)
  have f0 := hf.1.1
  have f1 := hf.1.2
  have e4 : mv ν 0 4 = ν 83 14 := rfl
  have cn : am_c (ν 83 14) = ν 83 14 := am_cR (by omega) (by omega)
  have ei : (am_c i).toNat = i.toNat := by rw [ci]
  have al := fp_al2_b f0 f1
  have ea : fp_al2 (mv ν) = am_shl 1 (2 * ν 83 14) := rfl
  have kk := fun (x : Int) (μ' : am_N) (h : gm ms ν μ') (e : x = fp_lgw (mv ν) i) => am_qe (k μ' h) e
  have lp28 : ∀ (m : Nat) (s z x : Int) (μ : am_N) , (∀ a b, a ≠ 99 → a ≠ 100 → a ≠ 104 → ¬(a = 83 ∧ b = 10) → μ a b = ν a b) → mi μ → 20 ≤ s → s ≤ 201 → μ 83 10 = s → z = ν 83 10 → (0 ≤ i ∧ i < ν 83 14) → (x = -9 ∧ fp_lq (mv ν) i.toNat (201 - s).toNat s = fp_lq (mv ν) i.toNat 181 20) ∨ (20 ≤ x ∧ x ≤ 200 ∧ x = fp_lq (mv ν) i.toNat 181 20) → 201 - s < (m : Int) → am_AW l 0 (fun _ => 0) 211 Q 28 [some (.inr (.inr 83)), some (.inl i), some (.inl z), some (.inl x)] [] μ := by
    intro m
    induction m with
    | zero =>
      intro s z x μ hv0 hv1 hv2 hv3 hv4 hv5 hv6 hv7 hm
      exfalso
      omega
    | succ m ih =>
      intro s z x μ hv0 hv1 hv2 hv3 hv4 hv5 hv6 hv7 hm
      have cs : am_c s = s := am_cR (by omega) (by omega)
      have cx : am_c x = x := am_cR (by omega) (by omega)
      have p2 : mv μ = fp_wd (mv ν) s := by
        refine fp_ct_e (fun b hb => ?_) (fun a b q1 q2 hb => ?_)
        · by_cases d : b = 0
          · subst d; exact hv4
          · rw [am_upM d, mv_0 hb]; exact hv0 83 (10 + b) (by decide) (by decide) (by decide) (by omega)
        · rw [am_upN (by omega)]
          obtain ⟨a, rfl⟩ : ∃ y, a = y + 1 := ⟨a - 1, by omega⟩
          rw [mv_a (by omega) hb]
          exact hv0 (85 + a) b (by omega) (by omega) (by omega) (by omega)
      have e14 : μ 83 14 = ν 83 14 := hv0 83 14 (by decide) (by decide) (by decide) (by decide)
      have l4n : fp_wd (mv ν) s 0 4 = ν 83 14 := e4
      have lb := fp_lw_c (F := fp_wd (mv ν) s) (r := i.toNat) (by rw [l4n]; exact f1) (by rw [l4n]; omega)
      have cl : am_c (2 * fp_lw (fp_wd (mv ν) s) i.toNat) = 2 * fp_lw (fp_wd (mv ν) s) i.toNat := am_cR (by omega) (by omega)
      have cA : am_c (am_shl 1 (2 * ν 83 14)) = am_shl 1 (2 * ν 83 14) := am_cR (by omega) (by omega)
      have hE : gm ms ν (am_up μ 83 10 z) := ⟨mi_up hv1 rfl, fun a b q => by (by_cases d : a = 83 ∧ b = 10; (rw [am_upS, if_pos d, d.1, d.2]; exact hv5); (rw [am_uE d]; exact hv0 a b (fun y => by rw [y] at q; cases q) (fun y => by rw [y] at q; cases q) (fun y => by rw [y] at q; cases q) d))⟩
      refine am_go (ct := fun pc => Nat.beq pc 28) am_oX7_longer 300 ?_
      conv => whnf
      repeat' first
        | (refine (?_ : am_wp _ _ _ _ _ _ _ _ _ _ _ _); conv => whnf)
        | (refine (?_ : am_sw _ _ _ _); conv => whnf)
        | refine And.intro trivial ?_
        | exact trivial
        | (refine (?_ : mi _); (first | decide | assumption | omega | (rw [ci]; omega) | exact mi_up h2.1 rfl | (intro a b q1 q2 q3 q4; rw [am_uE q4, g2 a b q1 q2 q3]; exact hv0 a b q1 q2 q3 q4) | (rw [am_upS, if_pos ⟨rfl, rfl⟩, y2]) | (have q0 := hv7.resolve_right (by omega); first | (refine Or.inl ⟨rfl, ?_⟩; rw [← q0.2, fp_lq_s (w := s) (by omega), if_neg (by rw [ea]; simp only [w2, cl, cA] at *; omega)]) | (refine Or.inr ⟨by rw [y2]; omega, by rw [y2]; omega, ?_⟩; rw [← q0.2, fp_lq_s (w := s) (by omega), if_pos (by rw [ea]; simp only [w2, cl, cA] at *; omega)]; exact y2)) | (unfold fp_lgw; rw [e4, if_neg (by omega)]; rcases hv7 with q0 | q0; (rw [← q0.2, show (201 - s).toNat = 0 by rw [hv4, cs, l200] at *; omega]; exact q0.1); (exact q0.2.2)) | (trace_state; fail)))
        | ((with_reducible refine (?_ : am_Does _ 182 _ _ _)); (have s9 : s ≤ 200 ∧ x = -9 := (by rw [hv4, cs, l200, cx, l0] at *; omega); refine n_findFirsts hv1 (by rw [p2]; exact fw_wd hw ⟨hv2, s9.1⟩) (fun μ2 h2 g2 v2 => ?_); have w2 : μ2 104 (am_c i).toNat = fp_lw (fp_wd (mv ν) s) i.toNat := (by rw [ei, v2 i.toNat (by rw [e14]; omega), p2]); have n2 : μ2 83 14 = ν 83 14 := (g2 83 14 (by decide) (by decide) (by decide)).trans e14; have y2 : μ2 83 10 = s := (g2 83 10 (by decide) (by decide) (by decide)).trans hv4))
        | exact mi_up h2.1 rfl
        | ((with_reducible refine (?_ : am_Does _ 169 _ _ _)); (refine n_races ?_; rw [n2]))
        | refine kk _ _ hE ?_
        | ((with_reducible refine (?_ : am_AW _ _ _ _ _ 28 _ _ _)); refine ih (s + 1) _ _ _ ?_ ?_ ?_ ?_ ?_ ?_ ?_ ?_ ?_)
        | ((with_reducible refine (?_ : am_Does _ 146 _ _ _)); refine x_isRunnerT _ f0 f1 (fun y0 y1 => ?_) (fun y => ?_))
        | ((with_reducible refine (?_ : am_Does _ 140 _ _ _)); refine x_no _ ?_ (fun μr fr => ?_))
        | ((with_reducible refine (?_ : am_AW _ _ _ _ _ 28 _ _ _)); refine lp28' 20 _ _ _ ?_ ?_ ?_ ?_ ?_ ?_ ?_ ?_)
        | refine kk _ _ (mi_84 hm fr) ?_
        | ((with_reducible refine (?_ : am_AW _ _ _ _ _ 28 _ _ _)); refine ih _ _ _ _ ?_ ?_ ?_ ?_ ?_ ?_ ?_ ?_ ?_)
        | refine And.intro (fun h => absurd h (by decide)) (fun _ => ?_)
        | refine And.intro (fun _ => ?_) (fun h => absurd (by decide) h)
        | refine And.intro (fun _ => ?_) (fun _ => ?_)
        | refine And.intro ?_ ?_
      all_goals (first | decide | assumption | omega | (rw [ci]; omega) | exact mi_up h2.1 rfl | (intro a b q1 q2 q3 q4; rw [am_uE q4, g2 a b q1 q2 q3]; exact hv0 a b q1 q2 q3 q4) | (rw [am_upS, if_pos ⟨rfl, rfl⟩, y2]) | (have q0 := hv7.resolve_right (by omega); first | (refine Or.inl ⟨rfl, ?_⟩; rw [← q0.2, fp_lq_s (w := s) (by omega), if_neg (by rw [ea]; simp only [w2, cl, cA] at *; omega)]) | (refine Or.inr ⟨by rw [y2]; omega, by rw [y2]; omega, ?_⟩; rw [← q0.2, fp_lq_s (w := s) (by omega), if_pos (by rw [ea]; simp only [w2, cl, cA] at *; omega)]; exact y2)) | (unfold fp_lgw; rw [e4, if_neg (by omega)]; rcases hv7 with q0 | q0; (rw [← q0.2, show (201 - s).toNat = 0 by rw [hv4, cs, l200] at *; omega]; exact q0.1); (exact q0.2.2)) | (trace_state; fail))
  have lp28' : ∀ (s z x : Int) (μ : am_N) , (∀ a b, a ≠ 99 → a ≠ 100 → a ≠ 104 → ¬(a = 83 ∧ b = 10) → μ a b = ν a b) → mi μ → 20 ≤ s → s ≤ 201 → μ 83 10 = s → z = ν 83 10 → (0 ≤ i ∧ i < ν 83 14) → (x = -9 ∧ fp_lq (mv ν) i.toNat (201 - s).toNat s = fp_lq (mv ν) i.toNat 181 20) ∨ (20 ≤ x ∧ x ≤ 200 ∧ x = fp_lq (mv ν) i.toNat 181 20) → am_AW l 0 (fun _ => 0) 211 Q 28 [some (.inr (.inr 83)), some (.inl i), some (.inl z), some (.inl x)] [] μ := fun s z x μ hv0 hv1 hv2 hv3 hv4 hv5 hv6 hv7 => lp28 ((201 - s) + 1).toNat s z x μ hv0 hv1 hv2 hv3 hv4 hv5 hv6 hv7 (by omega)
  refine am_go (ct := fun pc => Nat.beq pc 28) am_oX7_longer 300 ?_
  conv => whnf
  repeat' first
    | (refine (?_ : am_wp _ _ _ _ _ _ _ _ _ _ _ _); conv => whnf)
    | (refine (?_ : am_sw _ _ _ _); conv => whnf)
    | refine And.intro trivial ?_
    | exact trivial
    | (refine (?_ : mi _); (first | decide | assumption | omega | rfl | exact mi_up hm rfl | (intro a b q1 q2 q3 q4; exact am_uE q4) | (exact if_pos ⟨rfl, rfl⟩) | exact Or.inl ⟨rfl, rfl⟩ | (unfold fp_lgw; rw [e4, if_pos (by omega)]) | (trace_state; fail)))
    | ((with_reducible refine (?_ : am_Does _ 146 _ _ _)); refine x_isRunnerT _ f0 f1 (fun y0 y1 => ?_) (fun y => ?_))
    | ((with_reducible refine (?_ : am_Does _ 140 _ _ _)); refine x_no _ ?_ (fun μr fr => ?_))
    | ((with_reducible refine (?_ : am_AW _ _ _ _ _ 28 _ _ _)); refine lp28' 20 _ _ _ ?_ ?_ ?_ ?_ ?_ ?_ ?_ ?_)
    | refine kk _ _ (mi_84 hm fr) ?_
    | ((with_reducible refine (?_ : am_AW _ _ _ _ _ 28 _ _ _)); refine lp28' _ _ _ _ ?_ ?_ ?_ ?_ ?_ ?_ ?_ ?_)
    | refine And.intro (fun h => absurd h (by decide)) (fun _ => ?_)
    | refine And.intro (fun _ => ?_) (fun h => absurd (by decide) h)
    | refine And.intro (fun _ => ?_) (fun _ => ?_)
    | refine And.intro ?_ ?_
  all_goals (first | decide | assumption | omega | rfl | exact mi_up hm rfl | (intro a b q1 q2 q3 q4; exact am_uE q4) | (exact if_pos ⟨rfl, rfl⟩) | exact Or.inl ⟨rfl, rfl⟩ | (unfold fp_lgw; rw [e4, if_pos (by omega)]) | (trace_state; fail))
