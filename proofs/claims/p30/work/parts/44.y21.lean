/-! how uneven a field is -/
theorem fp_wa_c (L M H : Nat → Int) (i : Nat) (t : Int) : ∀ n : Nat, i < n → fp_wa L M H i t n * 4 ≤ (4 ^ n : Nat) := by
  intro n
  induction n with
  | zero => intro h; exact absurd h (by omega)
  | succ n ih =>
    intro h
    have e : (((4 ^ (n + 1) : Nat)) : Int) = (4 ^ n : Nat) * 4 := by rw [Nat.pow_succ]; omega
    simp only [fp_wa]
    by_cases d : n = i
    · rw [if_pos d, e]
      have q := fp_wa_b L M H i t n
      omega
    · rw [if_neg d, e]
      have q := fp_qu_b (L n) (M n) (H n) (if n < i then t + 1 else t)
      have p := fp_wa_b L M H i t n
      have z := am_mulb (a := fp_wa L M H i t n * 4) (by omega) (ih (by omega)) q.1 q.2
      rw [Int.mul_right_comm]
      exact z.2
theorem fp_lw_c {F : am_N} {r : Nat} (h4 : F 0 4 ≤ 4) (hr : (r : Int) < F 0 4) : 0 ≤ fp_lw F r ∧ fp_lw F r ≤ 256 := by
  have b := fp_lw_b h4 r
  have q := fun t => fp_wa_c (fun q => fp_pt (fp_tf F q) (F 4 q) 0) (fp_tf F) (fun q => fp_tf F q + F 4 q) r t (F 0 4).toNat (by omega)
  have a1 := q (fp_pt (fp_tf F r) (F 4 r) 0)
  have a2 := q (fp_tf F r)
  have a3 := q (fp_tf F r + F 4 r)
  have p : ((4 ^ (F 0 4).toNat : Nat) : Int) ≤ 256 := by
    rcases (show (F 0 4).toNat = 0 ∨ (F 0 4).toNat = 1 ∨ (F 0 4).toNat = 2 ∨ (F 0 4).toNat = 3 ∨ (F 0 4).toNat = 4 by omega) with z | z | z | z | z <;> rw [z] <;> decide
  refine ⟨b.1, ?_⟩
  unfold fp_lw fp_wy
  simp only
  omega
def fp_ux (f : Nat → Int) : Nat → Int
  | 0 => 0
  | r + 1 => if fp_ux f r < f r then f r else fp_ux f r
def fp_ui (g : Int) (f : Nat → Int) : Nat → Int
  | 0 => g
  | r + 1 => if f r < fp_ui g f r then f r else fp_ui g f r
/-- UNEVEN, of all races -/
def fp_un (F : am_N) : Int := fp_ux (fp_lw F) (F 0 4).toNat - fp_ui (fp_al2 F) (fp_lw F) (F 0 4).toNat
theorem fp_ux_b {f : Nat → Int} : ∀ n : Nat, (∀ r : Nat, r < n → 0 ≤ f r ∧ f r ≤ 256) → 0 ≤ fp_ux f n ∧ fp_ux f n ≤ 256 := by
  intro n
  induction n with
  | zero => intro _; exact ⟨(by first | exact Int.le_refl 0 | (show (0 : Int) ≤ 1; decide) | (show (0 : Int) ≤ _; decide) | (show _ ≤ (0 : Int); decide) | (show (1 : Int) ≤ _; decide) | (show (0 : Int) < _; decide)), (by first | exact Int.le_refl 0 | (show (0 : Int) ≤ 1; decide) | (show (0 : Int) ≤ _; decide) | (show _ ≤ (0 : Int); decide) | (show (1 : Int) ≤ _; decide) | (show (0 : Int) < _; decide))⟩
  | succ n ih =>
    intro h
    have q := ih (fun r hr => h r (by omega))
    have p := h n (by omega)
    simp only [fp_ux]
    split <;> omega
theorem fp_ui_b {g : Int} {f : Nat → Int} (g0 : 0 ≤ g) (g1 : g ≤ 256) : ∀ n : Nat, (∀ r : Nat, r < n → 0 ≤ f r ∧ f r ≤ 256) → 0 ≤ fp_ui g f n ∧ fp_ui g f n ≤ 256 := by
  intro n
  induction n with
  | zero => intro _; exact ⟨g0, g1⟩
  | succ n ih =>
    intro h
    have q := ih (fun r hr => h r (by omega))
    have p := h n (by omega)
    simp only [fp_ui]
    split <;> omega
theorem fp_un_b {F : am_N} (h0 : 0 ≤ F 0 4) (h4 : F 0 4 ≤ 4) : -256 ≤ fp_un F ∧ fp_un F ≤ 256 := by
  have a := fp_al2_b h0 h4
  have x := fp_ux_b (f := fp_lw F) (F 0 4).toNat (fun r hr => fp_lw_c h4 (by omega))
  have y := fp_ui_b (g := fp_al2 F) (f := fp_lw F) (by unfold fp_al2; omega) (by unfold fp_al2; omega) (F 0 4).toNat (fun r hr => fp_lw_c h4 (by omega))
  unfold fp_un
  omega
/-- a field with one LOADED by f, with another WAY -/
def fp_lf (F : am_N) (i : Nat) (f : Int) : am_N := fp_ct (am_up (am_up F 1 i 4) 2 i f)
def fp_wd (F : am_N) (w : Int) : am_N := fp_ct (am_up F 0 0 w)
theorem fw_lf {W : Int} {F : am_N} {i : Nat} {f : Int} (h : fp_fw W F) (hf : 0 ≤ f ∧ f ≤ 9) : fp_fw W (fp_lf F i f) := fw_ct (fw_kind h (by decide) hf)
theorem fw_wd {W : Int} {F : am_N} {w : Int} (h : fp_fw W F) (hw : 20 ≤ w ∧ w ≤ 200) : fp_fw W (fp_wd F w) := fw_ct (fw_way h hw)
def fp_lor (F : am_N) (i : Int) : Int := if ¬(0 ≤ i ∧ i < F 0 4) then -1 else ((fq_m (fun f => fp_un (fp_lf F i.toNat (f : Int))) 9 : Nat) : Int)
/-- the first WAY from w on, m tries -/
def fp_lq (F : am_N) (i : Nat) : Nat → Int → Int
  | 0, _ => -9
  | m + 1, w => if fp_al2 F ≤ 2 * fp_lw (fp_wd F w) i then w else fp_lq F i m (w + 1)
def fp_lgw (F : am_N) (i : Int) : Int := if ¬(0 ≤ i ∧ i < F 0 4) then -1 else fp_lq F i.toNat 181 20
theorem fp_lq_s {F : am_N} {i : Nat} {w : Int} (h : w ≤ 200) : fp_lq F i (201 - w).toNat w = if fp_al2 F ≤ 2 * fp_lw (fp_wd F w) i then w else fp_lq F i (201 - (w + 1)).toNat (w + 1) := by
  rw [show (201 - w).toNat = (201 - (w + 1)).toNat + 1 by omega]
  rfl
theorem fp_wd8 {μ μ2 : am_N} {v : Int} (g : ∀ b, b ≠ 0 → μ2 8 b = μ 8 b) (g' : ∀ a b, 8 < a → a < 15 → μ2 a b = μ a b) : fv (am_up μ2 8 0 v) 8 = fv (am_up μ 8 0 v) 8 := by
  refine fp_ct_e (fun b hb => ?_) (fun a b q1 q2 hb => ?_)
  · by_cases d : b = 0
    · subst d
      rfl
    · rw [am_upM d, am_upM d]
      exact g b d
  · rw [am_upN (by omega), am_upN (by omega)]
    exact g' _ b (by omega) (by omega)
theorem fp_wd9 {μ μ2 : am_N} {s : Int} {G : Int → am_N} (g2 : ∀ a b : Nat, ¬(30 ≤ a ∧ a ≤ 32) → ¬(a = 29 ∧ b = 0) → μ2 a b = am_up μ 8 0 s a b) (h : ∀ v : Int, fv (am_up μ 8 0 v) 8 = G v) : ∀ v : Int, fv (am_up μ2 8 0 v) 8 = G v := by
  intro v
  refine Eq.trans (fp_wd8 (μ := μ) (μ2 := μ2) (v := v) (fun b d => ?_) (fun a b q1 q2 => ?_)) (h v)
  · exact (g2 8 b (by omega) (by omega)).trans (am_upM d)
  · exact (g2 a b (by omega) (by omega)).trans (am_upN (by omega))
theorem sx_l8 {ν μ : am_N} (hS : sx ν ν) (f : ∀ a b, ¬(8 ≤ a ∧ a < 15) → ¬(30 ≤ a ∧ a ≤ 32) → ¬(a = 29 ∧ b = 0) → μ a b = ν a b) (h8 : 0 ≤ μ 8 4 ∧ μ 8 4 ≤ 4) (h29 : 0 ≤ μ 29 0 ∧ μ 29 0 ≤ 4) : sx ν μ := by
  refine ⟨fun a b ha => f a b (fun z => ?_) (fun z => sx_p30 ha (by omega)) (fun z => sx_p30 ha (by omega)), fun p hp => ?_, fun p hp => ?_, ⟨h8, ?_, h29, ?_⟩, hS.2.2.2.2⟩
  · rcases (show a = 8 ∨ a = 9 ∨ a = 10 ∨ a = 11 ∨ a = 12 ∨ a = 13 ∨ a = 14 by omega) with rfl | rfl | rfl | rfl | rfl | rfl | rfl <;> cases ha
  · rw [f 34 p (by omega) (by omega) (by omega)]; exact hS.2.1 p hp
  · rw [f 43 p (by omega) (by omega) (by omega)]; exact hS.2.2.1 p hp
  · rw [f 15 4 (by omega) (by omega) (by omega)]; exact hS.2.2.2.1.2.1
  · rw [f 38 0 (by omega) (by omega) (by omega)]; exact hS.2.2.2.1.2.2.2
theorem fp_lw_C8 {ν μ : am_N} {i : Nat} (n4 : ν 8 4 ≤ 4) (hi : (i : Int) < ν 8 4) (d0 : μ 29 0 = ν 8 4) (dr : ∀ q : Nat, (q : Int) < ν 8 4 → μ 30 q = fp_pt (am_TC ν 8 q) (ν 12 q) 0 ∧ μ 31 q = am_TC ν 8 q ∧ μ 32 q = am_TC ν 8 q + ν 12 q) : fp_wy (μ 30) (μ 31) (μ 32) (μ 29 0).toNat i = fp_lw (fv ν 8) i := by
  unfold fp_lw
  rw [d0, fv_0 (by decide)]
  refine fp_wy_e (by omega) (fun j hj => ?_)
  obtain ⟨q0, q1, q2⟩ := dr j (by omega)
  have t : am_TC ν 8 j = fp_tf (fv ν 8) j := fv_T (by omega)
  have s : fv ν 8 4 j = ν 12 j := fv_a (by decide) (by decide) (by omega)
  rw [q0, q1, q2, t, s]
  exact ⟨rfl, rfl, rfl⟩
theorem x_draw_8 {l : Launch} {ν : am_N} {Q : Option am_V → am_N → Prop} (hf : am_fC ν 8) (hs : ∀ q : Nat, (q : Int) < ν 8 4 → 0 ≤ ν 12 q ∧ ν 12 q ≤ 20) (k : ∀ μ' : am_N, (∀ a b, ¬(30 ≤ a ∧ a ≤ 32) → ¬(a = 29 ∧ b = 0) → μ' a b = ν a b) → μ' 29 0 = ν 8 4 → (∀ q : Nat, (q : Int) < ν 8 4 → μ' 30 q = fp_pt (am_TC ν 8 q) (ν 12 q) 0 ∧ μ' 31 q = am_TC ν 8 q ∧ μ' 32 q = am_TC ν 8 q + ν 12 q) → Q none μ') : am_Does l 21 [.inr (.inr 29), .inr (.inr 8)] ν Q := by
  refine am_Does_of (Nat.le_of_ble_eq_true rfl) (Nat.le_of_ble_eq_true rfl) (Nat.le_of_ble_eq_true rfl) ?_
  have l0 : am_c 0 = 0 := rfl
  have l1 : am_c 1 = 1 := rfl
  have l2 : am_c 2 = 2 := rfl
  have l3 : am_c 3 = 3 := rfl
  have l4 : am_c 4 = 4 := rfl
  have l16 : am_c 16 = 16 := rfl
  have hn := hf.1
  have hq := @am_TC_b ν 8
  have lp10 : ∀ (m : Nat) (i : Int) (μ : am_N) , (∀ a b, ¬(30 ≤ a ∧ a ≤ 32) → ¬(a = 29 ∧ b = 0) → μ a b = ν a b) → μ 29 0 = ν 8 4 → 0 ≤ i → i ≤ ν 8 4 → (∀ q : Nat, (q : Int) < i → μ 30 q = fp_pt (am_TC ν 8 q) (ν 12 q) 0 ∧ μ 31 q = am_TC ν 8 q ∧ μ 32 q = am_TC ν 8 q + ν 12 q) → ν 8 4 - i < (m : Int) → am_AW l 0 (fun _ => 0) 21 Q 10 [some (.inr (.inr 29)), some (.inr (.inr 8)), some (.inl i)] [] μ := by
    intro m
    induction m with
    | zero =>
      intro i μ hv0 hv1 hv2 hv3 hv4 hm
      exfalso
      omega
    | succ m ih =>
      intro i μ hv0 hv1 hv2 hv3 hv4 hm
      have ci : am_c i = i := am_cR (by omega) (by omega)
      have cn : am_c (ν 8 4) = ν 8 4 := am_cR (by omega) (by omega)
      obtain ⟨g1, g2⟩ := am_fC_ch (c := 8) (fun a b q1 q2 => hv0 a b (by omega) (by omega))
      have g3 := g1 hf
      have e4 : μ 8 4 = ν 8 4 := hv0 8 4 (by decide) (by decide)
      have eS : μ 12 i.toNat = ν 12 i.toNat := hv0 12 _ (by omega) (by omega)
      have gT := g2 i.toNat
      have eI : (am_c i).toNat = i.toNat := by rw [ci]
      refine am_go (ct := fun pc => Nat.beq pc 10) am_oX2_draw 300 ?_
      conv => whnf
      repeat' first
        | (refine (?_ : am_wp _ _ _ _ _ _ _ _ _ _ _ _); conv => whnf)
        | (refine (?_ : am_sw _ _ _ _); conv => whnf)
        | refine And.intro trivial ?_
        | exact trivial
        | exact g3
        | refine x_tenths_8 _ ?_ ?_ ?_ ?_
        | (refine x_put _ _ _ ?_ ?_ ?_ ?_ ?_ ?_ (fun μ2 y1 y2 y3 y4 => ?_))
        | refine k _ ?_ ?_ ?_
        | refine ih _ _ ?_ ?_ ?_ ?_ ?_ ?_
        | refine And.intro (fun h => absurd h (by decide)) (fun _ => ?_)
        | refine And.intro (fun _ => ?_) (fun h => absurd (by decide) h)
        | refine And.intro (fun _ => ?_) (fun _ => ?_)
        | refine And.intro ?_ ?_
      all_goals (first | decide | assumption | omega | (simp only [hv1, ci, cn, e4] at *; omega) | (have hi : i < ν 8 4 := (by simp only [hv1, ci, cn, e4] at *; omega); have z1 := @hq i.toNat hf (by omega); have z2 := hs i.toNat (by omega); simp only [eI, eS, gT]; omega) | (intro a b h1 h2; rw [y1 a b (by omega)]; exact hv0 a b h1 h2) | (rw [y1 29 0 (by omega)]; exact hv1) | (intro q hq; by_cases d : (q : Int) = i; (rw [show q = i.toNat by omega, y2, y3, y4]; refine ⟨?_, ?_, ?_⟩ <;> simp only [eI, eS, gT]); (rw [y1 30 q (by omega), y1 31 q (by omega), y1 32 q (by omega)]; exact hv4 q (by omega))) | (intro q hq; exact hv4 q (by simp only [hv1, ci, cn, e4] at *; omega)) | (trace_state; fail))
  have lp10' : ∀ (i : Int) (μ : am_N) , (∀ a b, ¬(30 ≤ a ∧ a ≤ 32) → ¬(a = 29 ∧ b = 0) → μ a b = ν a b) → μ 29 0 = ν 8 4 → 0 ≤ i → i ≤ ν 8 4 → (∀ q : Nat, (q : Int) < i → μ 30 q = fp_pt (am_TC ν 8 q) (ν 12 q) 0 ∧ μ 31 q = am_TC ν 8 q ∧ μ 32 q = am_TC ν 8 q + ν 12 q) → am_AW l 0 (fun _ => 0) 21 Q 10 [some (.inr (.inr 29)), some (.inr (.inr 8)), some (.inl i)] [] μ := fun i μ hv0 hv1 hv2 hv3 hv4 => lp10 ((ν 8 4 - i) + 1).toNat i μ hv0 hv1 hv2 hv3 hv4 (by omega)
  refine am_go (ct := fun pc => Nat.beq pc 10) am_oX2_draw 300 ?_
  conv => whnf
  repeat' first
    | (refine (?_ : am_wp _ _ _ _ _ _ _ _ _ _ _ _); conv => whnf)
    | (refine (?_ : am_sw _ _ _ _); conv => whnf)
    | refine And.intro trivial ?_
    | exact trivial
    | refine lp10' _ _ ?_ ?_ ?_ ?_ ?_
    | refine And.intro (fun h => absurd h (by decide)) (fun _ => ?_)
    | refine And.intro (fun _ => ?_) (fun h => absurd (by decide) h)
    | refine And.intro (fun _ => ?_) (fun _ => ?_)
    | refine And.intro ?_ ?_
  all_goals (first | decide | assumption | omega | rfl | (intro a b h1 h2; rw [am_upS, if_neg h2]) | (exact if_pos ⟨rfl, rfl⟩) | (intros; omega) | (trace_state; fail))
theorem x_uneven {l : Launch} {ν : am_N} {Q : Option am_V → am_N → Prop} (G : am_N) (n0 : 0 ≤ ν 29 0) (n1 : ν 29 0 ≤ 4) (en : G 0 4 = ν 29 0) (hb : ∀ j : Nat, (j : Int) < ν 29 0 → (0 ≤ ν 30 j ∧ ν 30 j ≤ 200000) ∧ (0 ≤ ν 31 j ∧ ν 31 j ≤ 200000) ∧ (0 ≤ ν 32 j ∧ ν 32 j ≤ 200000)) (hr : ∀ r : Nat, (r : Int) < ν 29 0 → fp_wy (ν 30) (ν 31) (ν 32) (ν 29 0).toNat r = fp_lw G r) (k : Q (some (.inl (fp_un G))) ν) : am_Does l 27 [.inr (.inr 29)] ν Q := by
  refine am_Does_of (Nat.le_of_ble_eq_true rfl) (Nat.le_of_ble_eq_true rfl) (Nat.le_of_ble_eq_true rfl) ?_
  have l0 : am_c 0 = 0 := rfl
  have l1 : am_c 1 = 1 := rfl
  have l2 : am_c 2 = 2 := rfl
  have l4 : am_c 4 = 4 := rfl
  have l9 : am_c 9 = 9 := rfl
  have l10 : am_c 10 = 10 := rfl
  have l20 : am_c 20 = 20 := rfl
  have l200 : am_c 200 = 200 := rfl
  have l999 : am_c 999 = 999 := rfl
  have cn : am_c (ν 29 0) = ν 29 0 := am_cR (by omega) (by omega)
  have al := fp_al2_b n0 n1
  have ea : fp_al2 G = am_shl 1 (2 * ν 29 0) := by unfold fp_al2; rw [en]
  have lp9 : ∀ (m : Nat) (x y i : Int) (o4 : Option am_V) , 0 ≤ i → i ≤ ν 29 0 → x = fp_ux (fp_lw G) i.toNat → y = fp_ui (fp_al2 G) (fp_lw G) i.toNat → ν 29 0 - i < (m : Int) → am_AW l 0 (fun _ => 0) 27 Q 9 [some (.inr (.inr 29)), some (.inl x), some (.inl y), some (.inl i), o4] [] ν := by
    intro m
    induction m with
    | zero =>
      intro x y i o4  hv0 hv1 hv2 hv3 hm
      exfalso
      omega
    | succ m ih =>
      intro x y i o4  hv0 hv1 hv2 hv3 hm
      have ci : am_c i = i := am_cR (by omega) (by omega)
      have lb := fun r : Nat => fun q : r < i.toNat => fp_lw_c (F := G) (r := r) (by omega) (by omega)
      have xb := fp_ux_b (f := fp_lw G) i.toNat lb
      have yb := fp_ui_b (g := fp_al2 G) (f := fp_lw G) (by omega) (by omega) i.toNat lb
      have cx : am_c x = x := am_cR (by omega) (by omega)
      have cy : am_c y = y := am_cR (by omega) (by omega)
      refine am_go (ct := fun pc => Nat.beq pc 9) am_oX2_uneven 300 ?_
      conv => whnf
      repeat' first
        | (refine (?_ : am_wp _ _ _ _ _ _ _ _ _ _ _ _); conv => whnf)
        | (refine (?_ : am_sw _ _ _ _); conv => whnf)
        | refine And.intro trivial ?_
        | exact trivial
        | (have hi : i < ν 29 0 := (by rw [ci, cn] at *; omega); have wb := fp_lw_c (F := G) (r := i.toNat) (by omega) (by omega); have cl : am_c (fp_lw G i.toNat) = fp_lw G i.toNat := am_cR (by omega) (by omega); refine x_ways i hv0 hi n1 hb ?_; rw [hr i.toNat (by omega)])
        | refine am_qe k ?_
        | refine s_allWays ?_
        | refine ih _ _ _ _  ?_ ?_ ?_ ?_ ?_
        | refine And.intro (fun h => absurd h (by decide)) (fun _ => ?_)
        | refine And.intro (fun _ => ?_) (fun h => absurd (by decide) h)
        | refine And.intro (fun _ => ?_) (fun _ => ?_)
        | refine And.intro ?_ ?_
      all_goals (first | decide | assumption | omega | (rw [show (i + 1).toNat = i.toNat + 1 by omega]; simp only [fp_ux, fp_ui]; rw [cl]; first | (rw [cx, hv2]) | (rw [cy, hv3])) | (unfold fp_un; rw [hv2, hv3, en, show i.toNat = (ν 29 0).toNat by rw [ci, cn] at *; omega]) | (trace_state; fail))
  have lp9' : ∀ (x y i : Int) (o4 : Option am_V) , 0 ≤ i → i ≤ ν 29 0 → x = fp_ux (fp_lw G) i.toNat → y = fp_ui (fp_al2 G) (fp_lw G) i.toNat → am_AW l 0 (fun _ => 0) 27 Q 9 [some (.inr (.inr 29)), some (.inl x), some (.inl y), some (.inl i), o4] [] ν := fun x y i o4  hv0 hv1 hv2 hv3 => lp9 ((ν 29 0 - i) + 1).toNat x y i o4  hv0 hv1 hv2 hv3 (by omega)
  refine am_go (ct := fun pc => Nat.beq pc 9) am_oX2_uneven 300 ?_
  conv => whnf
  repeat' first
    | (refine (?_ : am_wp _ _ _ _ _ _ _ _ _ _ _ _); conv => whnf)
    | (refine (?_ : am_sw _ _ _ _); conv => whnf)
    | refine And.intro trivial ?_
    | exact trivial
    | refine s_allWays ?_
    | refine lp9' _ _ _ _  ?_ ?_ ?_ ?_
    | refine And.intro (fun h => absurd h (by decide)) (fun _ => ?_)
    | refine And.intro (fun _ => ?_) (fun h => absurd (by decide) h)
    | refine And.intro (fun _ => ?_) (fun _ => ?_)
    | refine And.intro ?_ ?_
  all_goals (first | decide | assumption | omega | rfl | exact ea.symm | (trace_state; fail))
theorem n_uneven {l : Launch} {ν : am_N} {Q : Option am_V → am_N → Prop} (hm : mi ν) (hw : fp_fw 999 (mv ν)) (k : ∀ μ' : am_N, gm ms ν μ' → (∀ a b, a ≠ 99 → a ≠ 100 → a ≠ 104 → μ' a b = ν a b) → Q (some (.inl (fp_un (mv ν)))) μ') : am_Does l 183 [.inr (.inr 83)] ν Q := by
  refine am_Does_of (Nat.le_of_ble_eq_true rfl) (Nat.le_of_ble_eq_true rfl) (Nat.le_of_ble_eq_true rfl) ?_
  have l0 : am_c 0 = 0 := rfl
  have l1 : am_c 1 = 1 := rfl
  have l2 : am_c 2 = 2 := rfl
  have l4 : am_c 4 = 4 := rfl
  have l9 : am_c 9 = 9 := rfl
  have l10 : am_c 10 = 10 := rfl
  have l20 : am_c 20 = 20 := rfl
  have l200 : am_c 200 = 200 := rfl
  have l999 : am_c 999 = 999 := rfl
  obtain ⟨hf, -, -, -, -, -, hx⟩ := fw_M hw (by decide)
  have f0 := hf.1.1
  have f1 := hf.1.2
  have e4 : mv ν 0 4 = ν 83 14 := rfl
  have cn : am_c (ν 83 14) = ν 83 14 := am_cR (by omega) (by omega)
  have al := fp_al2_b f0 f1
  have ea : fp_al2 (mv ν) = am_shl 1 (2 * ν 83 14) := rfl
  have lp13 : ∀ (m : Nat) (x y i : Int) (μ : am_N) , gm ms ν μ → (∀ a b, a ≠ 99 → a ≠ 100 → a ≠ 104 → μ a b = ν a b) → (∀ r : Nat, (r : Int) < ν 83 14 → μ 104 r = fp_lw (mv ν) r) → 0 ≤ i → i ≤ ν 83 14 → x = fp_ux (fp_lw (mv ν)) i.toNat → y = fp_ui (fp_al2 (mv ν)) (fp_lw (mv ν)) i.toNat → ν 83 14 - i < (m : Int) → am_AW l 0 (fun _ => 0) 183 Q 13 [some (.inr (.inr 83)), some (.inl x), some (.inl y), some (.inl i)] [] μ := by
    intro m
    induction m with
    | zero =>
      intro x y i μ hv0 hv1 hv2 hv3 hv4 hv5 hv6 hm
      exfalso
      omega
    | succ m ih =>
      intro x y i μ hv0 hv1 hv2 hv3 hv4 hv5 hv6 hm
      have ci : am_c i = i := am_cR (by omega) (by omega)
      have e14 : μ 83 14 = ν 83 14 := hv0.2 83 14 rfl
      have lb := fun r : Nat => fun q : r < i.toNat => fp_lw_c (F := mv ν) (r := r) f1 (by rw [e4]; omega)
      have xb := fp_ux_b (f := fp_lw (mv ν)) i.toNat lb
      have yb := fp_ui_b (g := fp_al2 (mv ν)) (f := fp_lw (mv ν)) (by omega) (by omega) i.toNat lb
      have cx : am_c x = x := am_cR (by omega) (by omega)
      have cy : am_c y = y := am_cR (by omega) (by omega)
      have w104 := fun q : i < ν 83 14 => (show μ 104 (am_c i).toNat = fp_lw (mv ν) i.toNat by rw [ci]; exact hv2 i.toNat (by omega))
      have wb := fun q : i < ν 83 14 => fp_lw_c (F := mv ν) (r := i.toNat) f1 (by rw [e4]; omega)
      have cl := fun q : i < ν 83 14 => (show am_c (fp_lw (mv ν) i.toNat) = fp_lw (mv ν) i.toNat from am_cR (by have z := wb q; omega) (by have z := wb q; omega))
      have kk := fun (x : Int) (e : x = fp_un (mv ν)) => am_qe (k μ hv0 hv1) e
      refine am_go (ct := fun pc => Nat.beq pc 13) am_oX7_uneven 300 ?_
      conv => whnf
      repeat' first
        | (refine (?_ : am_wp _ _ _ _ _ _ _ _ _ _ _ _); conv => whnf)
        | (refine (?_ : am_sw _ _ _ _); conv => whnf)
        | refine And.intro trivial ?_
        | exact trivial
        | (refine (?_ : gm _ _ _); (first | decide | assumption | omega | (rw [ci]; rw [ci, e14, cn] at *; omega) | (simp only [ci, e14, cn] at *; omega) | (have hi : i < ν 83 14 := (by simp only [ci, e14, cn] at *; omega); have wl := w104 hi; have cl := cl hi; rw [show (i + 1).toNat = i.toNat + 1 by omega]; simp only [fp_ux, fp_ui]; first | (rw [wl, ← hv5, if_pos (by simp only [wl, cl, cx] at *; omega)]) | (rw [← hv5, if_neg (by simp only [wl, cl, cx] at *; omega)]) | (rw [wl, ← hv6, if_pos (by simp only [wl, cl, cy] at *; omega)]) | (rw [← hv6, if_neg (by simp only [wl, cl, cy] at *; omega)])) | (unfold fp_un; rw [hv5, hv6, e4, show i.toNat = (ν 83 14).toNat by rw [ci, e14, cn] at *; omega]) | (trace_state; fail)))
        | refine kk _ ?_
        | (refine n_findFirsts hm hw (fun μ1 h1 g1 v1 => ?_); have e14 : μ1 83 14 = ν 83 14 := h1.2 83 14 rfl)
        | (refine n_races ?_; rw [e14])
        | refine ih _ _ _ _ ?_ ?_ ?_ ?_ ?_ ?_ ?_ ?_
        | refine And.intro (fun h => absurd h (by decide)) (fun _ => ?_)
        | refine And.intro (fun _ => ?_) (fun h => absurd (by decide) h)
        | refine And.intro (fun _ => ?_) (fun _ => ?_)
        | refine And.intro ?_ ?_
      all_goals (first | decide | assumption | omega | (rw [ci]; rw [ci, e14, cn] at *; omega) | (simp only [ci, e14, cn] at *; omega) | (have hi : i < ν 83 14 := (by simp only [ci, e14, cn] at *; omega); have wl := w104 hi; have cl := cl hi; rw [show (i + 1).toNat = i.toNat + 1 by omega]; simp only [fp_ux, fp_ui]; first | (rw [wl, ← hv5, if_pos (by simp only [wl, cl, cx] at *; omega)]) | (rw [← hv5, if_neg (by simp only [wl, cl, cx] at *; omega)]) | (rw [wl, ← hv6, if_pos (by simp only [wl, cl, cy] at *; omega)]) | (rw [← hv6, if_neg (by simp only [wl, cl, cy] at *; omega)])) | (unfold fp_un; rw [hv5, hv6, e4, show i.toNat = (ν 83 14).toNat by rw [ci, e14, cn] at *; omega]) | (trace_state; fail))
  have lp13' : ∀ (x y i : Int) (μ : am_N) , gm ms ν μ → (∀ a b, a ≠ 99 → a ≠ 100 → a ≠ 104 → μ a b = ν a b) → (∀ r : Nat, (r : Int) < ν 83 14 → μ 104 r = fp_lw (mv ν) r) → 0 ≤ i → i ≤ ν 83 14 → x = fp_ux (fp_lw (mv ν)) i.toNat → y = fp_ui (fp_al2 (mv ν)) (fp_lw (mv ν)) i.toNat → am_AW l 0 (fun _ => 0) 183 Q 13 [some (.inr (.inr 83)), some (.inl x), some (.inl y), some (.inl i)] [] μ := fun x y i μ hv0 hv1 hv2 hv3 hv4 hv5 hv6 => lp13 ((ν 83 14 - i) + 1).toNat x y i μ hv0 hv1 hv2 hv3 hv4 hv5 hv6 (by omega)
  refine am_go (ct := fun pc => Nat.beq pc 13) am_oX7_uneven 300 ?_
  conv => whnf
  repeat' first
    | (refine (?_ : am_wp _ _ _ _ _ _ _ _ _ _ _ _); conv => whnf)
    | (refine (?_ : am_sw _ _ _ _); conv => whnf)
    | refine And.intro trivial ?_
    | exact trivial
    | (refine (?_ : gm _ _ _); (first | decide | assumption | omega | rfl | exact ea.symm | (trace_state; fail)))
    | (refine n_findFirsts hm hw (fun μ1 h1 g1 v1 => ?_); have e14 : μ1 83 14 = ν 83 14 := h1.2 83 14 rfl)
    | (refine n_races ?_; rw [e14])
    | refine lp13' _ _ _ _ ?_ ?_ ?_ ?_ ?_ ?_ ?_
    | refine And.intro (fun h => absurd h (by decide)) (fun _ => ?_)
    | refine And.intro (fun _ => ?_) (fun h => absurd (by decide) h)
    | refine And.intro (fun _ => ?_) (fun _ => ?_)
    | refine And.intro ?_ ?_
  all_goals (first | decide | assumption | omega | rfl | exact ea.symm | (trace_state; fail))
theorem s_load {l : Launch} {ν : am_N} {Q : Option am_V → am_N → Prop} (i : Int) (ci : am_c i = i) (hS : sx ν ν) (hw : fp_fw 999 (fv ν 1)) (k : ∀ μ' : am_N, sx ν μ' → Q (some (.inl (fp_lor (fv ν 1) i))) μ') : am_Does l 75 [.inr (.inr 0), .inl i] ν Q := by
  refine am_Does_of (Nat.le_of_ble_eq_true rfl) (Nat.le_of_ble_eq_true rfl) (Nat.le_of_ble_eq_true rfl) ?_
  have l0 : am_c 0 = 0 := rfl
  have l1 : am_c 1 = 1 := rfl
  have l2 : am_c 2 = 2 := rfl
  have l4 : am_c 4 = 4 := rfl
  have l9 : am_c 9 = 9 := rfl
  have l10 : am_c 10 = 10 := rfl
  have l20 : am_c 20 = 20 := rfl
  have l200 : am_c 200 = 200 := rfl
  have l999 : am_c 999 = 999 := rfl
  have m1' : am_c (-1) = -1 := rfl
  have m2' : am_c (-2) = -2 := rfl
  have m3' : am_c (-3) = -3 := rfl
  have m9' : am_c (-9) = -9 := rfl
  obtain ⟨hf, -, -, -, -, -, hx⟩ := fw_C hw (by decide)
  have f0 := hf.1.1
  have f1 := hf.1.2
  have e4 : fv ν 1 0 4 = ν 1 4 := fv_0 (by decide)
  have cn : am_c (ν 1 4) = ν 1 4 := am_cR (by omega) (by omega)
  have h15 := hS.2.2.2.1
  have ei : (am_c i).toNat = i.toNat := by rw [ci]
  have kk := fun (x : Int) (μ' : am_N) (h : sx ν μ') (e : x = fp_lor (fv ν 1) i) => am_qe (k μ' h) e
  have lp45 : ∀ (m : Nat) (t y s : Int) (o5 : Option am_V) (μ : am_N) , (∀ a b, ¬(8 ≤ a ∧ a < 15) → ¬(30 ≤ a ∧ a ≤ 32) → ¬(a = 29 ∧ b = 0) → μ a b = ν a b) → 0 ≤ s → s ≤ 10 → (∀ v : Int, fv (am_up μ 10 i.toNat v) 8 = fp_lf (fv ν 1) i.toNat v) → μ 8 4 = ν 1 4 → (0 ≤ μ 29 0 ∧ μ 29 0 ≤ 4) → (0 ≤ i ∧ i < ν 1 4) → (s = 0 ∧ t = 0 ∧ y = 0) ∨ (1 ≤ s ∧ t = ((fq_m (fun f : Nat => fp_un (fp_lf (fv ν 1) i.toNat (f : Int))) (s.toNat - 1) : Nat) : Int) ∧ y = fp_un (fp_lf (fv ν 1) i.toNat ((fq_m (fun f : Nat => fp_un (fp_lf (fv ν 1) i.toNat (f : Int))) (s.toNat - 1) : Nat) : Int))) → 10 - s < (m : Int) → am_AW l 0 (fun _ => 0) 75 Q 45 [some (.inr (.inr 0)), some (.inl i), some (.inl t), some (.inl y), some (.inl s), o5] [] μ := by
    intro m
    induction m with
    | zero =>
      intro t y s o5 μ hv0 hv1 hv2 hv3 hv4 hv5 hv6 hv7 hm
      exfalso
      omega
    | succ m ih =>
      intro t y s o5 μ hv0 hv1 hv2 hv3 hv4 hv5 hv6 hv7 hm
      have cs : am_c s = s := am_cR (by omega) (by omega)
      have sE : sx ν μ := sx_l8 hS hv0 (by rw [hv4]; exact ⟨f0, f1⟩) hv5
      have p2 : fv (am_up μ 10 i.toNat s) 8 = fp_lf (fv ν 1) i.toNat s := hv3 s
      have n8 : am_up μ 10 i.toNat s 8 4 = ν 1 4 := (am_upN (by decide)).trans hv4
      have l4n : ∀ v : Int, fp_lf (fv ν 1) i.toNat v 0 4 = ν 1 4 := fun v => e4
      have ub := fun v : Int => fp_un_b (F := fp_lf (fv ν 1) i.toNat v) (by rw [l4n]; exact f0) (by rw [l4n]; exact f1)
      have us := ub s
      have uy := ub ((fq_m (fun f : Nat => fp_un (fp_lf (fv ν 1) i.toNat (f : Int))) (s.toNat - 1) : Nat) : Int)
      have cy : am_c y = y := am_cR (by omega) (by omega)
      have cu : am_c (fp_un (fp_lf (fv ν 1) i.toNat s)) = fp_un (fp_lf (fv ν 1) i.toNat s) := am_cR (by omega) (by omega)
      have es : ((s.toNat : Nat) : Int) = s := Int.toNat_of_nonneg hv1
      refine am_go (ct := fun pc => Nat.beq pc 45) am_oX6_load 300 ?_
      conv => whnf
      repeat' first
        | (refine (?_ : am_wp _ _ _ _ _ _ _ _ _ _ _ _); conv => whnf)
        | (refine (?_ : am_sw _ _ _ _); conv => whnf)
        | refine And.intro trivial ?_
        | exact trivial
        | (have s9 : s ≤ 9 := (by rw [cs, l9] at *; omega); rw [ei]; have w8 : fp_fw 999 (fv (am_up μ 10 i.toNat s) 8) := (by rw [p2]; exact fw_lf hw ⟨hv1, s9⟩); obtain ⟨hf8, -, -, -, -, -, hx8⟩ := fw_C w8 (by decide); have fr8 : ∀ a b, ¬(8 ≤ a ∧ a < 15) → am_up μ 10 i.toNat s a b = μ a b := (fun a b q => am_upN (by omega)); refine x_draw_8 hf8 (fun q hq => (hx8 q hq).2.2.2) (fun μ2 g2 d0 dr => ?_); have hb := fp_rw_b (c := 8) hf8 (fun q hq => (hx8 q hq).2.2.2) d0 dr)
        | (refine x_uneven (fp_lf (fv ν 1) i.toNat s) (by rw [d0, n8]; exact f0) (by rw [d0, n8]; exact f1) (by rw [d0, n8]; exact l4n s) hb (fun r hr => by rw [← p2]; exact fp_lw_C8 (by rw [n8]; exact f1) (by rw [d0] at hr; exact hr) d0 dr) ?_)
        | refine kk _ _ sE ?_
        | refine x_has1 _ f0 f1 (fun y0 y1 => ?_) (fun y => ?_)
        | refine x_refuse _ ?_ (fun μr fr => ?_)
        | (refine x_take_8_1 (fun μ1 g1 s1 r1 => ?_); have p1 : fv μ1 8 = fv ν 1 := fv_tk s1 r1)
        | refine kk _ _ (sx_78 hS fr) ?_
        | refine ih _ _ _ _ _ ?_ ?_ ?_ ?_ ?_ ?_ ?_ ?_ ?_
        | refine And.intro (fun h => absurd h (by decide)) (fun _ => ?_)
        | refine And.intro (fun _ => ?_) (fun h => absurd (by decide) h)
        | refine And.intro (fun _ => ?_) (fun _ => ?_)
        | refine And.intro ?_ ?_
      all_goals (first | decide | omega | (rw [ci]; omega) | (intro a b q1 q2 q3; exact (g2 a b q2 q3).trans ((fr8 a b q1).trans (hv0 a b q1 q2 q3))) | (intro v; rw [← hv3 v]; refine fp_ct_e (fun b hb => ?_) (fun a b q1 q2 hb => ?_); (rw [am_upN (by decide), am_upN (by decide), g2 8 b (by omega) (by omega), am_upN (by decide)]); (by_cases d : 8 + a = 10 ∧ b = i.toNat; (rw [am_upS, if_pos d, am_upS, if_pos d]); (rw [am_uE d, am_uE d, g2 _ b (by omega) (by omega), am_uE d]))) | (rw [g2 8 4 (by omega) (by omega)]; exact n8) | (rw [d0, n8]; exact ⟨f0, f1⟩) | (rw [d0, n8]; exact f0) | (rw [d0, n8]; exact f1) | (refine Or.inr ⟨by omega, ?_⟩; rcases hv7 with ⟨z1, z2, z3⟩ | ⟨z1, z2, z3⟩; (subst z1; first | exact ⟨rfl, rfl⟩ | (exfalso; omega) | (exfalso; simp only [cs, l0] at *; omega)); (rw [fq_m_s z1, es]; first | (rw [if_pos (by rw [← z3]; simp only [cu, cy] at *; omega)]; exact ⟨es.symm, by rw [es]⟩) | (rw [if_neg (by rw [← z3]; simp only [cu, cy] at *; omega)]; exact ⟨z2, z3⟩) | (exfalso; simp only [cs, l0] at *; omega))) | (have x := hv7.resolve_left (by rw [cs, l9] at *; omega); unfold fp_lor; rw [e4, if_neg (by omega), x.2.1, show s.toNat - 1 = 9 by rw [cs, l9] at *; omega]) | (trace_state; fail))
  have lp45' : ∀ (t y s : Int) (o5 : Option am_V) (μ : am_N) , (∀ a b, ¬(8 ≤ a ∧ a < 15) → ¬(30 ≤ a ∧ a ≤ 32) → ¬(a = 29 ∧ b = 0) → μ a b = ν a b) → 0 ≤ s → s ≤ 10 → (∀ v : Int, fv (am_up μ 10 i.toNat v) 8 = fp_lf (fv ν 1) i.toNat v) → μ 8 4 = ν 1 4 → (0 ≤ μ 29 0 ∧ μ 29 0 ≤ 4) → (0 ≤ i ∧ i < ν 1 4) → (s = 0 ∧ t = 0 ∧ y = 0) ∨ (1 ≤ s ∧ t = ((fq_m (fun f : Nat => fp_un (fp_lf (fv ν 1) i.toNat (f : Int))) (s.toNat - 1) : Nat) : Int) ∧ y = fp_un (fp_lf (fv ν 1) i.toNat ((fq_m (fun f : Nat => fp_un (fp_lf (fv ν 1) i.toNat (f : Int))) (s.toNat - 1) : Nat) : Int))) → am_AW l 0 (fun _ => 0) 75 Q 45 [some (.inr (.inr 0)), some (.inl i), some (.inl t), some (.inl y), some (.inl s), o5] [] μ := fun t y s o5 μ hv0 hv1 hv2 hv3 hv4 hv5 hv6 hv7 => lp45 ((10 - s) + 1).toNat t y s o5 μ hv0 hv1 hv2 hv3 hv4 hv5 hv6 hv7 (by omega)
  refine am_go (ct := fun pc => Nat.beq pc 45) am_oX6_load 300 ?_
  conv => whnf
  repeat' first
    | (refine (?_ : am_wp _ _ _ _ _ _ _ _ _ _ _ _); conv => whnf)
    | (refine (?_ : am_sw _ _ _ _); conv => whnf)
    | refine And.intro trivial ?_
    | exact trivial
    | refine x_has1 _ f0 f1 (fun y0 y1 => ?_) (fun y => ?_)
    | refine x_refuse _ ?_ (fun μr fr => ?_)
    | (refine x_take_8_1 (fun μ1 g1 s1 r1 => ?_); have p1 : fv μ1 8 = fv ν 1 := fv_tk s1 r1)
    | refine kk _ _ (sx_78 hS fr) ?_
    | refine lp45' _ _ _ _ _ ?_ ?_ ?_ ?_ ?_ ?_ ?_ ?_
    | refine And.intro (fun h => absurd h (by decide)) (fun _ => ?_)
    | refine And.intro (fun _ => ?_) (fun h => absurd (by decide) h)
    | refine And.intro (fun _ => ?_) (fun _ => ?_)
    | refine And.intro ?_ ?_
  all_goals (first | decide | assumption | omega | rfl | (rw [ci]; omega) | (intro a b q1 q2 q3; exact (am_upN (show a ≠ 9 by omega)).trans (g1 a b q1)) | (intro v; rw [ei, show fv (am_up (am_up μ1 9 i.toNat 4) 10 i.toNat v) 8 = fp_ct (am_up (fv (am_up μ1 9 i.toNat 4) 8) 2 i.toNat v) from fv_up (c := 8) (a := 2) (by decide), show fv (am_up μ1 9 i.toNat 4) 8 = fp_ct (am_up (fv μ1 8) 1 i.toNat 4) from fv_up (c := 8) (a := 1) (by decide), p1]; exact fp_ct2) | (rw [am_upN (by decide)]; exact s1 4 (by decide)) | (rw [am_upN (by decide), g1 29 0 (by omega)]; exact h15.2.2.1) | (rw [am_upN (by decide), g1 29 0 (by omega)]; exact h15.2.2.1.1) | (rw [am_upN (by decide), g1 29 0 (by omega)]; exact h15.2.2.1.2) | exact Or.inl ⟨rfl, rfl, rfl⟩ | (unfold fp_lor; rw [e4, if_pos (by omega)]) | (trace_state; fail))
theorem n_load {l : Launch} {ν : am_N} {Q : Option am_V → am_N → Prop} (i : Int) (ci : am_c i = i) (hm : mi ν) (hw : fp_fw 999 (mv ν)) (k : ∀ μ' : am_N, gm mQ ν μ' → Q (some (.inl (fp_lor (mv ν) i))) μ') : am_Does l 198 [.inr (.inr 83), .inl i] ν Q := by
  refine am_Does_of (Nat.le_of_ble_eq_true rfl) (Nat.le_of_ble_eq_true rfl) (Nat.le_of_ble_eq_true rfl) ?_
  have l0 : am_c 0 = 0 := rfl
  have l1 : am_c 1 = 1 := rfl
  have l2 : am_c 2 = 2 := rfl
  have l4 : am_c 4 = 4 := rfl
  have l9 : am_c 9 = 9 := rfl
  have l10 : am_c 10 = 10 := rfl
  have l20 : am_c 20 = 20 := rfl
  have l200 : am_c 200 = 200 := rfl
  have l999 : am_c 999 = 999 := rfl
  have m1' : am_c (-1) = -1 := rfl
  have m2' : am_c (-2) = -2 := rfl
  have m3' : am_c (-3) = -3 := rfl
  have m9' : am_c (-9) = -9 := rfl
  obtain ⟨hf, -, -, -, -, -, hx⟩ := fw_M hw (by decide)
  have f0 := hf.1.1
  have f1 := hf.1.2
  have e4 : mv ν 0 4 = ν 83 14 := rfl
  have cn : am_c (ν 83 14) = ν 83 14 := am_cR (by omega) (by omega)
  have ei : (am_c i).toNat = i.toNat := by rw [ci]
  have kk := fun (x : Int) (μ' : am_N) (h : gm mQ ν μ') (e : x = fp_lor (mv ν) i) => am_qe (k μ' h) e
  have lp36 : ∀ (m : Nat) (t y s : Int) (o5 : Option am_V) (μ : am_N) , MD mQ ν μ → 0 ≤ s → s ≤ 10 → (∀ v : Int, mv (am_up μ 86 i.toNat v) = fp_lf (mv ν) i.toNat v) → μ 83 14 = ν 83 14 → (0 ≤ i ∧ i < ν 83 14) → (s = 0 ∧ t = 0 ∧ y = 999) ∨ (1 ≤ s ∧ t = ((fq_m (fun f : Nat => fp_un (fp_lf (mv ν) i.toNat (f : Int))) (s.toNat - 1) : Nat) : Int) ∧ y = fp_un (fp_lf (mv ν) i.toNat ((fq_m (fun f : Nat => fp_un (fp_lf (mv ν) i.toNat (f : Int))) (s.toNat - 1) : Nat) : Int))) → 10 - s < (m : Int) → am_AW l 0 (fun _ => 0) 198 Q 36 [some (.inr (.inr 83)), some (.inl i), some (.inl t), some (.inl y), some (.inl s), o5] [] μ := by
    intro m
    induction m with
    | zero =>
      intro t y s o5 μ hv0 hv1 hv2 hv3 hv4 hv5 hv6 hm
      exfalso
      omega
    | succ m ih =>
      intro t y s o5 μ hv0 hv1 hv2 hv3 hv4 hv5 hv6 hm
      have cs : am_c s = s := am_cR (by omega) (by omega)
      have p2 : mv (am_up μ 86 i.toNat s) = fp_lf (mv ν) i.toNat s := hv3 s
      have l4n : ∀ v : Int, fp_lf (mv ν) i.toNat v 0 4 = ν 83 14 := fun v => e4
      have ub := fun v : Int => fp_un_b (F := fp_lf (mv ν) i.toNat v) (by rw [l4n]; exact f0) (by rw [l4n]; exact f1)
      have us := ub s
      have uy := ub ((fq_m (fun f : Nat => fp_un (fp_lf (mv ν) i.toNat (f : Int))) (s.toNat - 1) : Nat) : Int)
      have cy : am_c y = y := am_cR (by omega) (by omega)
      have cu : am_c (fp_un (fp_lf (mv ν) i.toNat s)) = fp_un (fp_lf (mv ν) i.toNat s) := am_cR (by omega) (by omega)
      have es : ((s.toNat : Nat) : Int) = s := Int.toNat_of_nonneg hv1
      refine am_go (ct := fun pc => Nat.beq pc 36) am_oX7_load 300 ?_
      conv => whnf
      repeat' first
        | (refine (?_ : am_wp _ _ _ _ _ _ _ _ _ _ _ _); conv => whnf)
        | (refine (?_ : am_sw _ _ _ _); conv => whnf)
        | refine And.intro trivial ?_
        | exact trivial
        | (have s9 : s ≤ 9 := (by rw [cs, l10] at *; omega); rw [ei]; refine n_uneven (mi_up (md_i hv0) rfl) (by rw [p2]; exact fw_lf hw ⟨hv1, s9⟩) (fun μ2 h2 g2 => ?_); rw [p2])
        | (refine m_come1 (fun μ3 u1 _ _ _ => ?_); have hG : gm mQ ν μ3 := md_back hv0 u1 (fun _ _ q => q))
        | refine kk _ _ hG ?_
        | refine x_isRunnerT _ f0 f1 (fun y0 y1 => ?_) (fun y => ?_)
        | refine x_no _ ?_ (fun μr fr => ?_)
        | (refine m_keep1 (fun μ1 u1 _ _ _ => ?_); have hD : MD mQ ν μ1 := md_start (gm_rf hm) u1; have p1 : mv μ1 = mv ν := mv_keep (fun a b q => u1.2 a b (by omega) (by omega)); have n1 : μ1 83 14 = ν 83 14 := u1.2 83 14 (by omega) (by omega))
        | refine kk _ _ (gm_84 (fun _ => rfl) hm fr) ?_
        | refine ih _ _ _ _ _ ?_ ?_ ?_ ?_ ?_ ?_ ?_ ?_
        | refine And.intro (fun h => absurd h (by decide)) (fun _ => ?_)
        | refine And.intro (fun _ => ?_) (fun h => absurd (by decide) h)
        | refine And.intro (fun _ => ?_) (fun _ => ?_)
        | refine And.intro ?_ ?_
      all_goals (first | decide | omega | (rw [ci]; omega) | exact md_tr (md_up hv0 rfl rfl) h2 (fun k j q => (Bool.or_eq_false_iff.mp q).1) | (intro v; rw [← hv3 v]; exact mv_keep4 (fun a b q => by by_cases d : a = 86 ∧ b = i.toNat; (rw [am_upS, if_pos d, am_upS, if_pos d]); (rw [am_uE d, am_uE d, g2 a b (by omega) (by omega) (by omega), am_uE d]))) | (rw [g2 83 14 (by decide) (by decide) (by decide), am_upN (by decide)]; exact hv4) | (refine Or.inr ⟨by omega, ?_⟩; rcases hv6 with ⟨z1, z2, z3⟩ | ⟨z1, z2, z3⟩; (subst z1; first | exact ⟨rfl, rfl⟩ | (exfalso; simp only [cu, cy] at *; omega)); (rw [fq_m_s z1, es]; first | (rw [if_pos (by rw [← z3]; simp only [cu, cy] at *; omega)]; exact ⟨es.symm, by rw [es]⟩) | (rw [if_neg (by rw [← z3]; simp only [cu, cy] at *; omega)]; exact ⟨z2, z3⟩))) | (have x := hv6.resolve_left (by rw [cs, l10] at *; omega); unfold fp_lor; rw [e4, if_neg (by omega), x.2.1, show s.toNat - 1 = 9 by rw [cs, l10] at *; omega]) | (trace_state; fail))
  have lp36' : ∀ (t y s : Int) (o5 : Option am_V) (μ : am_N) , MD mQ ν μ → 0 ≤ s → s ≤ 10 → (∀ v : Int, mv (am_up μ 86 i.toNat v) = fp_lf (mv ν) i.toNat v) → μ 83 14 = ν 83 14 → (0 ≤ i ∧ i < ν 83 14) → (s = 0 ∧ t = 0 ∧ y = 999) ∨ (1 ≤ s ∧ t = ((fq_m (fun f : Nat => fp_un (fp_lf (mv ν) i.toNat (f : Int))) (s.toNat - 1) : Nat) : Int) ∧ y = fp_un (fp_lf (mv ν) i.toNat ((fq_m (fun f : Nat => fp_un (fp_lf (mv ν) i.toNat (f : Int))) (s.toNat - 1) : Nat) : Int))) → am_AW l 0 (fun _ => 0) 198 Q 36 [some (.inr (.inr 83)), some (.inl i), some (.inl t), some (.inl y), some (.inl s), o5] [] μ := fun t y s o5 μ hv0 hv1 hv2 hv3 hv4 hv5 hv6 => lp36 ((10 - s) + 1).toNat t y s o5 μ hv0 hv1 hv2 hv3 hv4 hv5 hv6 (by omega)
  refine am_go (ct := fun pc => Nat.beq pc 36) am_oX7_load 300 ?_
  conv => whnf
  repeat' first
    | (refine (?_ : am_wp _ _ _ _ _ _ _ _ _ _ _ _); conv => whnf)
    | (refine (?_ : am_sw _ _ _ _); conv => whnf)
    | refine And.intro trivial ?_
    | exact trivial
    | refine x_isRunnerT _ f0 f1 (fun y0 y1 => ?_) (fun y => ?_)
    | refine x_no _ ?_ (fun μr fr => ?_)
    | (refine m_keep1 (fun μ1 u1 _ _ _ => ?_); have hD : MD mQ ν μ1 := md_start (gm_rf hm) u1; have p1 : mv μ1 = mv ν := mv_keep (fun a b q => u1.2 a b (by omega) (by omega)); have n1 : μ1 83 14 = ν 83 14 := u1.2 83 14 (by omega) (by omega))
    | refine kk _ _ (gm_84 (fun _ => rfl) hm fr) ?_
    | refine lp36' _ _ _ _ _ ?_ ?_ ?_ ?_ ?_ ?_ ?_
    | refine And.intro (fun h => absurd h (by decide)) (fun _ => ?_)
    | refine And.intro (fun _ => ?_) (fun h => absurd (by decide) h)
    | refine And.intro (fun _ => ?_) (fun _ => ?_)
    | refine And.intro ?_ ?_
  all_goals (first | decide | assumption | omega | rfl | (rw [ci]; omega) | exact md_up hD rfl rfl | (intro v; rw [ei, show mv (am_up (am_up μ1 85 i.toNat 4) 86 i.toNat v) = fp_ct (am_up (mv (am_up μ1 85 i.toNat 4)) 2 i.toNat v) from mv_up (a := 1), show mv (am_up μ1 85 i.toNat 4) = fp_ct (am_up (mv μ1) 1 i.toNat 4) from mv_up (a := 0), p1]; exact fp_ct2) | (rw [am_upN (by decide)]; exact n1) | exact Or.inl ⟨rfl, rfl, rfl⟩ | (unfold fp_lor; rw [e4, if_pos (by omega)]) | (trace_state; fail))
theorem s_longer {l : Launch} {ν : am_N} {Q : Option am_V → am_N → Prop} (i : Int) (ci : am_c i = i) (hS : sx ν ν) (hw : fp_fw 999 (fv ν 1)) (k : ∀ μ' : am_N, sx ν μ' → Q (some (.inl (fp_lgw (fv ν 1) i))) μ') : am_Does l 83 [.inr (.inr 0), .inl i] ν Q := by
  refine am_Does_of (Nat.le_of_ble_eq_true rfl) (Nat.le_of_ble_eq_true rfl) (Nat.le_of_ble_eq_true rfl) ?_
  have l0 : am_c 0 = 0 := rfl
  have l1 : am_c 1 = 1 := rfl
  have l2 : am_c 2 = 2 := rfl
  have l4 : am_c 4 = 4 := rfl
  have l9 : am_c 9 = 9 := rfl
  have l10 : am_c 10 = 10 := rfl
  have l20 : am_c 20 = 20 := rfl
  have l200 : am_c 200 = 200 := rfl
  have l999 : am_c 999 = 999 := rfl
  have m1' : am_c (-1) = -1 := rfl
  have m2' : am_c (-2) = -2 := rfl
  have m3' : am_c (-3) = -3 := rfl
  have m9' : am_c (-9) = -9 := rfl
  obtain ⟨hf, -, -, -, -, -, hx⟩ := fw_C hw (by decide)
  have f0 := hf.1.1
  have f1 := hf.1.2
  have e4 : fv ν 1 0 4 = ν 1 4 := fv_0 (by decide)
  have cn : am_c (ν 1 4) = ν 1 4 := am_cR (by omega) (by omega)
  have h15 := hS.2.2.2.1
  have al := fp_al2_b f0 f1
  have ea : fp_al2 (fv ν 1) = am_shl 1 (2 * ν 1 4) := by unfold fp_al2; rw [e4]
  have kk := fun (x : Int) (μ' : am_N) (h : sx ν μ') (e : x = fp_lgw (fv ν 1) i) => am_qe (k μ' h) e
  have lp31 : ∀ (m : Nat) (s : Int) (μ : am_N) , (∀ a b, ¬(8 ≤ a ∧ a < 15) → ¬(30 ≤ a ∧ a ≤ 32) → ¬(a = 29 ∧ b = 0) → μ a b = ν a b) → 20 ≤ s → s ≤ 201 → (∀ v : Int, fv (am_up μ 8 0 v) 8 = fp_wd (fv ν 1) v) → μ 8 4 = ν 1 4 → (0 ≤ μ 29 0 ∧ μ 29 0 ≤ 4) → (0 ≤ i ∧ i < ν 1 4) → fp_lq (fv ν 1) i.toNat (201 - s).toNat s = fp_lq (fv ν 1) i.toNat 181 20 → 201 - s < (m : Int) → am_AW l 0 (fun _ => 0) 83 Q 31 [some (.inr (.inr 0)), some (.inl i), some (.inl s)] [] μ := by
    intro m
    induction m with
    | zero =>
      intro s μ hv0 hv1 hv2 hv3 hv4 hv5 hv6 hv7 hm
      exfalso
      omega
    | succ m ih =>
      intro s μ hv0 hv1 hv2 hv3 hv4 hv5 hv6 hv7 hm
      have cs : am_c s = s := am_cR (by omega) (by omega)
      have sE : sx ν μ := sx_l8 hS hv0 (by rw [hv4]; exact ⟨f0, f1⟩) hv5
      have p2 : fv (am_up μ 8 0 s) 8 = fp_wd (fv ν 1) s := hv3 s
      have n8 : am_up μ 8 0 s 8 4 = ν 1 4 := (am_upM (by decide)).trans hv4
      have l4n : fp_wd (fv ν 1) s 0 4 = ν 1 4 := e4
      have lb := fp_lw_c (F := fp_wd (fv ν 1) s) (r := i.toNat) (by rw [l4n]; exact f1) (by rw [l4n]; omega)
      have cl : am_c (2 * fp_lw (fp_wd (fv ν 1) s) i.toNat) = 2 * fp_lw (fp_wd (fv ν 1) s) i.toNat := am_cR (by omega) (by omega)
      have cA : am_c (am_shl 1 (2 * ν 1 4)) = am_shl 1 (2 * ν 1 4) := am_cR (by omega) (by omega)
      refine am_go (ct := fun pc => Nat.beq pc 31) am_oX6_longer 300 ?_
      conv => whnf
      repeat' first
        | (refine (?_ : am_wp _ _ _ _ _ _ _ _ _ _ _ _); conv => whnf)
        | (refine (?_ : am_sw _ _ _ _); conv => whnf)
        | refine And.intro trivial ?_
        | exact trivial
        | (have s9 : s ≤ 200 := (by rw [cs, l200] at *; omega); have w8 : fp_fw 999 (fv (am_up μ 8 0 s) 8) := (by rw [p2]; exact fw_wd hw ⟨hv1, s9⟩); obtain ⟨hf8, -, -, -, -, -, hx8⟩ := fw_C w8 (by decide); have fr8 : ∀ a b, ¬(8 ≤ a ∧ a < 15) → am_up μ 8 0 s a b = μ a b := (fun a b q => am_upN (by omega)); refine x_draw_8 hf8 (fun q hq => (hx8 q hq).2.2.2) (fun μ2 g2 d0 dr => ?_); have hb := fp_rw_b (c := 8) hf8 (fun q hq => (hx8 q hq).2.2.2) d0 dr; have m29 : μ2 29 0 = ν 1 4 := d0.trans n8; have sF : sx ν μ2 := sx_l8 hS (fun a b q1 q2 q3 => (g2 a b q2 q3).trans ((fr8 a b q1).trans (hv0 a b q1 q2 q3))) (by rw [g2 8 4 (by omega) (by omega), n8]; exact ⟨f0, f1⟩) (by rw [m29]; exact ⟨f0, f1⟩))
        | (refine x_ways i (by omega) (by rw [m29]; omega) (by rw [m29]; exact f1) hb ?_; rw [fp_lw_C8 (by rw [n8]; exact f1) (by rw [n8]; omega) d0 dr, p2])
        | (refine s_allWays ?_; rw [m29])
        | refine kk _ _ sF ?_
        | refine kk _ _ sE ?_
        | refine x_has1 _ f0 f1 (fun y0 y1 => ?_) (fun y => ?_)
        | refine x_refuse _ ?_ (fun μr fr => ?_)
        | (refine x_take_8_1 (fun μ1 g1 s1 r1 => ?_); have p1 : fv μ1 8 = fv ν 1 := fv_tk s1 r1)
        | refine kk _ _ (sx_78 hS fr) ?_
        | refine ih _ _ ?_ ?_ ?_ ?_ ?_ ?_ ?_ ?_ ?_
        | refine And.intro (fun h => absurd h (by decide)) (fun _ => ?_)
        | refine And.intro (fun _ => ?_) (fun h => absurd (by decide) h)
        | refine And.intro (fun _ => ?_) (fun _ => ?_)
        | refine And.intro ?_ ?_
      all_goals (first | decide | omega | (intro a b q1 q2 q3; exact (g2 a b q2 q3).trans ((fr8 a b q1).trans (hv0 a b q1 q2 q3))) | exact fp_wd9 (G := fp_wd (fv ν 1)) g2 hv3 | (rw [g2 8 4 (by omega) (by omega)]; exact n8) | (rw [m29]; exact ⟨f0, f1⟩) | (rw [m29]; exact f0) | (rw [m29]; exact f1) | (rw [← hv7, fp_lq_s (w := s) (by omega), if_neg (by rw [ea]; simp only [cl, cA] at *; omega)]) | (unfold fp_lgw; rw [e4, if_neg (by omega), ← hv7, fp_lq_s (w := s) (by omega), if_pos (by rw [ea]; simp only [cl, cA] at *; omega)]) | (unfold fp_lgw; rw [e4, if_neg (by omega), ← hv7, show (201 - s).toNat = 0 by rw [cs, l200] at *; omega]; rfl) | (trace_state; fail))
  have lp31' : ∀ (s : Int) (μ : am_N) , (∀ a b, ¬(8 ≤ a ∧ a < 15) → ¬(30 ≤ a ∧ a ≤ 32) → ¬(a = 29 ∧ b = 0) → μ a b = ν a b) → 20 ≤ s → s ≤ 201 → (∀ v : Int, fv (am_up μ 8 0 v) 8 = fp_wd (fv ν 1) v) → μ 8 4 = ν 1 4 → (0 ≤ μ 29 0 ∧ μ 29 0 ≤ 4) → (0 ≤ i ∧ i < ν 1 4) → fp_lq (fv ν 1) i.toNat (201 - s).toNat s = fp_lq (fv ν 1) i.toNat 181 20 → am_AW l 0 (fun _ => 0) 83 Q 31 [some (.inr (.inr 0)), some (.inl i), some (.inl s)] [] μ := fun s μ hv0 hv1 hv2 hv3 hv4 hv5 hv6 hv7 => lp31 ((201 - s) + 1).toNat s μ hv0 hv1 hv2 hv3 hv4 hv5 hv6 hv7 (by omega)
  refine am_go (ct := fun pc => Nat.beq pc 31) am_oX6_longer 300 ?_
  conv => whnf
  repeat' first
    | (refine (?_ : am_wp _ _ _ _ _ _ _ _ _ _ _ _); conv => whnf)
    | (refine (?_ : am_sw _ _ _ _); conv => whnf)
    | refine And.intro trivial ?_
    | exact trivial
    | refine x_has1 _ f0 f1 (fun y0 y1 => ?_) (fun y => ?_)
    | refine x_refuse _ ?_ (fun μr fr => ?_)
    | (refine x_take_8_1 (fun μ1 g1 s1 r1 => ?_); have p1 : fv μ1 8 = fv ν 1 := fv_tk s1 r1)
    | refine kk _ _ (sx_78 hS fr) ?_
    | refine lp31' _ _ ?_ ?_ ?_ ?_ ?_ ?_ ?_ ?_
    | refine And.intro (fun h => absurd h (by decide)) (fun _ => ?_)
    | refine And.intro (fun _ => ?_) (fun h => absurd (by decide) h)
    | refine And.intro (fun _ => ?_) (fun _ => ?_)
    | refine And.intro ?_ ?_
  all_goals (first | decide | assumption | omega | rfl | (intro a b q1 q2 q3; exact g1 a b q1) | (intro v; rw [show fv (am_up μ1 8 0 v) 8 = fp_ct (am_up (fv μ1 8) 0 0 v) from fv_up0, p1]; rfl) | exact s1 4 (by decide) | (rw [g1 29 0 (by omega)]; exact h15.2.2.1) | (rw [g1 29 0 (by omega)]; exact h15.2.2.1.1) | (rw [g1 29 0 (by omega)]; exact h15.2.2.1.2) | (unfold fp_lgw; rw [e4, if_pos (by omega)]) | (trace_state; fail))
theorem n_longer {l : Launch} {ν : am_N} {Q : Option am_V → am_N → Prop} (i : Int) (ci : am_c i = i) (hm : mi ν) (hw : fp_fw 999 (mv ν)) (k : ∀ μ' : am_N, gm ms ν μ' → Q (some (.inl (fp_lgw (mv ν) i))) μ') : am_Does l 211 [.inr (.inr 83), .inl i] ν Q := by
  refine am_Does_of (Nat.le_of_ble_eq_true rfl) (Nat.le_of_ble_eq_true rfl) (Nat.le_of_ble_eq_true rfl) ?_
  have l0 : am_c 0 = 0 := rfl
  have l1 : am_c 1 = 1 := rfl
  have l2 : am_c 2 = 2 := rfl
  have l4 : am_c 4 = 4 := rfl
  have l9 : am_c 9 = 9 := rfl
  have l10 : am_c 10 = 10 := rfl
  have l20 : am_c 20 = 20 := rfl
  have l200 : am_c 200 = 200 := rfl
  have l999 : am_c 999 = 999 := rfl
  have m1' : am_c (-1) = -1 := rfl
  have m2' : am_c (-2) = -2 := rfl
  have m3' : am_c (-3) = -3 := rfl
  have m9' : am_c (-9) = -9 := rfl
  obtain ⟨hf, -, -, -, -, -, hx⟩ := fw_M hw (by decide)
  have f0 := hf.1.1
  have f1 := hf.1.2
  have e4 : mv ν 0 4 = ν 83 14 := rfl
  have cn : am_c (ν 83 14) = ν 83 14 := am_cR (by omega) (by omega)
  have ei : (am_c i).toNat = i.toNat := by rw [ci]
  have al := fp_al2_b f0 f1
  have ea : fp_al2 (mv ν) = am_shl 1 (2 * ν 83 14) := rfl
  have kk := fun (x : Int) (μ' : am_N) (h : gm ms ν μ') (e : x = fp_lgw (mv ν) i) => am_qe (k μ' h) e
  have lp28 : ∀ (m : Nat) (s z x : Int) (μ : am_N) , (∀ a b, a ≠ 99 → a ≠ 100 → a ≠ 104 → ¬(a = 83 ∧ b = 10) → μ a b = ν a b) → mi μ → 20 ≤ s → s ≤ 201 → μ 83 10 = s → z = ν 83 10 → (0 ≤ i ∧ i < ν 83 14) → (x = -9 ∧ fp_lq (mv ν) i.toNat (201 - s).toNat s = fp_lq (mv ν) i.toNat 181 20) ∨ (20 ≤ x ∧ x ≤ 200 ∧ x = fp_lq (mv ν) i.toNat 181 20) → 201 - s < (m : Int) → am_AW l 0 (fun _ => 0) 211 Q 28 [some (.inr (.inr 83)), some (.inl i), some (.inl z), some (.inl x)] [] μ := by
    intro m
    induction m with
    | zero =>
      intro s z x μ hv0 hv1 hv2 hv3 hv4 hv5 hv6 hv7 hm
      exfalso
      omega
    | succ m ih =>
      intro s z x μ hv0 hv1 hv2 hv3 hv4 hv5 hv6 hv7 hm
      have cs : am_c s = s := am_cR (by omega) (by omega)
      have cx : am_c x = x := am_cR (by omega) (by omega)
      have p2 : mv μ = fp_wd (mv ν) s := by
        refine fp_ct_e (fun b hb => ?_) (fun a b q1 q2 hb => ?_)
        · by_cases d : b = 0
          · subst d; exact hv4
          · rw [am_upM d, mv_0 hb]; exact hv0 83 (10 + b) (by decide) (by decide) (by decide) (by omega)
        · rw [am_upN (by omega)]
          obtain ⟨a, rfl⟩ : ∃ y, a = y + 1 := ⟨a - 1, by omega⟩
          rw [mv_a (by omega) hb]
          exact hv0 (85 + a) b (by omega) (by omega) (by omega) (by omega)
      have e14 : μ 83 14 = ν 83 14 := hv0 83 14 (by decide) (by decide) (by decide) (by decide)
      have l4n : fp_wd (mv ν) s 0 4 = ν 83 14 := e4
      have lb := fp_lw_c (F := fp_wd (mv ν) s) (r := i.toNat) (by rw [l4n]; exact f1) (by rw [l4n]; omega)
      have cl : am_c (2 * fp_lw (fp_wd (mv ν) s) i.toNat) = 2 * fp_lw (fp_wd (mv ν) s) i.toNat := am_cR (by omega) (by omega)
      have cA : am_c (am_shl 1 (2 * ν 83 14)) = am_shl 1 (2 * ν 83 14) := am_cR (by omega) (by omega)
      have hE : gm ms ν (am_up μ 83 10 z) := ⟨mi_up hv1 rfl, fun a b q => by (by_cases d : a = 83 ∧ b = 10; (rw [am_upS, if_pos d, d.1, d.2]; exact hv5); (rw [am_uE d]; exact hv0 a b (fun y => by rw [y] at q; cases q) (fun y => by rw [y] at q; cases q) (fun y => by rw [y] at q; cases q) d))⟩
      refine am_go (ct := fun pc => Nat.beq pc 28) am_oX7_longer 300 ?_
      conv => whnf
      repeat' first
        | (refine (?_ : am_wp _ _ _ _ _ _ _ _ _ _ _ _); conv => whnf)
        | (refine (?_ : am_sw _ _ _ _); conv => whnf)
        | refine And.intro trivial ?_
        | exact trivial
        | (refine (?_ : mi _); (first | decide | assumption | omega | (rw [ci]; omega) | exact mi_up h2.1 rfl | (intro a b q1 q2 q3 q4; rw [am_uE q4, g2 a b q1 q2 q3]; exact hv0 a b q1 q2 q3 q4) | (rw [am_upS, if_pos ⟨rfl, rfl⟩, y2]) | (have q0 := hv7.resolve_right (by omega); first | (refine Or.inl ⟨rfl, ?_⟩; rw [← q0.2, fp_lq_s (w := s) (by omega), if_neg (by rw [ea]; simp only [w2, cl, cA] at *; omega)]) | (refine Or.inr ⟨by rw [y2]; omega, by rw [y2]; omega, ?_⟩; rw [← q0.2, fp_lq_s (w := s) (by omega), if_pos (by rw [ea]; simp only [w2, cl, cA] at *; omega)]; exact y2)) | (unfold fp_lgw; rw [e4, if_neg (by omega)]; rcases hv7 with q0 | q0; (rw [← q0.2, show (201 - s).toNat = 0 by rw [hv4, cs, l200] at *; omega]; exact q0.1); (exact q0.2.2)) | (trace_state; fail)))
        | (have s9 : s ≤ 200 ∧ x = -9 := (by rw [hv4, cs, l200, cx, l0] at *; omega); refine n_findFirsts hv1 (by rw [p2]; exact fw_wd hw ⟨hv2, s9.1⟩) (fun μ2 h2 g2 v2 => ?_); have w2 : μ2 104 (am_c i).toNat = fp_lw (fp_wd (mv ν) s) i.toNat := (by rw [ei, v2 i.toNat (by rw [e14]; omega), p2]); have n2 : μ2 83 14 = ν 83 14 := (g2 83 14 (by decide) (by decide) (by decide)).trans e14; have y2 : μ2 83 10 = s := (g2 83 10 (by decide) (by decide) (by decide)).trans hv4)
        | exact mi_up h2.1 rfl
        | (refine n_races ?_; rw [n2])
        | refine kk _ _ hE ?_
        | refine ih (s + 1) _ _ _ ?_ ?_ ?_ ?_ ?_ ?_ ?_ ?_ ?_
        | refine x_isRunnerT _ f0 f1 (fun y0 y1 => ?_) (fun y => ?_)
        | refine x_no _ ?_ (fun μr fr => ?_)
        | refine lp28' 20 _ _ _ ?_ ?_ ?_ ?_ ?_ ?_ ?_ ?_
        | refine kk _ _ (mi_84 hm fr) ?_
        | refine ih _ _ _ _ ?_ ?_ ?_ ?_ ?_ ?_ ?_ ?_ ?_
        | refine And.intro (fun h => absurd h (by decide)) (fun _ => ?_)
        | refine And.intro (fun _ => ?_) (fun h => absurd (by decide) h)
        | refine And.intro (fun _ => ?_) (fun _ => ?_)
        | refine And.intro ?_ ?_
      all_goals (first | decide | assumption | omega | (rw [ci]; omega) | exact mi_up h2.1 rfl | (intro a b q1 q2 q3 q4; rw [am_uE q4, g2 a b q1 q2 q3]; exact hv0 a b q1 q2 q3 q4) | (rw [am_upS, if_pos ⟨rfl, rfl⟩, y2]) | (have q0 := hv7.resolve_right (by omega); first | (refine Or.inl ⟨rfl, ?_⟩; rw [← q0.2, fp_lq_s (w := s) (by omega), if_neg (by rw [ea]; simp only [w2, cl, cA] at *; omega)]) | (refine Or.inr ⟨by rw [y2]; omega, by rw [y2]; omega, ?_⟩; rw [← q0.2, fp_lq_s (w := s) (by omega), if_pos (by rw [ea]; simp only [w2, cl, cA] at *; omega)]; exact y2)) | (unfold fp_lgw; rw [e4, if_neg (by omega)]; rcases hv7 with q0 | q0; (rw [← q0.2, show (201 - s).toNat = 0 by rw [hv4, cs, l200] at *; omega]; exact q0.1); (exact q0.2.2)) | (trace_state; fail))
  have lp28' : ∀ (s z x : Int) (μ : am_N) , (∀ a b, a ≠ 99 → a ≠ 100 → a ≠ 104 → ¬(a = 83 ∧ b = 10) → μ a b = ν a b) → mi μ → 20 ≤ s → s ≤ 201 → μ 83 10 = s → z = ν 83 10 → (0 ≤ i ∧ i < ν 83 14) → (x = -9 ∧ fp_lq (mv ν) i.toNat (201 - s).toNat s = fp_lq (mv ν) i.toNat 181 20) ∨ (20 ≤ x ∧ x ≤ 200 ∧ x = fp_lq (mv ν) i.toNat 181 20) → am_AW l 0 (fun _ => 0) 211 Q 28 [some (.inr (.inr 83)), some (.inl i), some (.inl z), some (.inl x)] [] μ := fun s z x μ hv0 hv1 hv2 hv3 hv4 hv5 hv6 hv7 => lp28 ((201 - s) + 1).toNat s z x μ hv0 hv1 hv2 hv3 hv4 hv5 hv6 hv7 (by omega)
  refine am_go (ct := fun pc => Nat.beq pc 28) am_oX7_longer 300 ?_
  conv => whnf
  repeat' first
    | (refine (?_ : am_wp _ _ _ _ _ _ _ _ _ _ _ _); conv => whnf)
    | (refine (?_ : am_sw _ _ _ _); conv => whnf)
    | refine And.intro trivial ?_
    | exact trivial
    | (refine (?_ : mi _); (first | decide | assumption | omega | rfl | exact mi_up hm rfl | (intro a b q1 q2 q3 q4; exact am_uE q4) | (exact if_pos ⟨rfl, rfl⟩) | exact Or.inl ⟨rfl, rfl⟩ | (unfold fp_lgw; rw [e4, if_pos (by omega)]) | (trace_state; fail)))
    | refine x_isRunnerT _ f0 f1 (fun y0 y1 => ?_) (fun y => ?_)
    | refine x_no _ ?_ (fun μr fr => ?_)
    | refine lp28' 20 _ _ _ ?_ ?_ ?_ ?_ ?_ ?_ ?_ ?_
    | refine kk _ _ (mi_84 hm fr) ?_
    | refine lp28' _ _ _ _ ?_ ?_ ?_ ?_ ?_ ?_ ?_ ?_
    | refine And.intro (fun h => absurd h (by decide)) (fun _ => ?_)
    | refine And.intro (fun _ => ?_) (fun h => absurd (by decide) h)
    | refine And.intro (fun _ => ?_) (fun _ => ?_)
    | refine And.intro ?_ ?_
  all_goals (first | decide | assumption | omega | rfl | exact mi_up hm rfl | (intro a b q1 q2 q3 q4; exact am_uE q4) | (exact if_pos ⟨rfl, rfl⟩) | exact Or.inl ⟨rfl, rfl⟩ | (unfold fp_lgw; rw [e4, if_pos (by omega)]) | (trace_state; fail))
