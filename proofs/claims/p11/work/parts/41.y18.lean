/-! LIKELY: all races -/
def fp_su (f : Nat → Int) : Nat → Int
  | 0 => 0
  | k + 1 => fp_su f k + f k
theorem fp_su_e {f g : Nat → Int} : ∀ N : Nat, (∀ k : Nat, k < N → f k = g k) → fp_su f N = fp_su g N := by
  intro N
  induction N with
  | zero => intro _; rfl
  | succ N ih =>
    intro h
    show fp_su f N + f N = fp_su g N + g N
    rw [ih (fun k hk => h k (by omega)), h N (by omega)]
theorem fp_su_a (f : Nat → Int) (a : Nat) : ∀ b : Nat, fp_su f (a + b) = fp_su f a + fp_su (fun q => f (a + q)) b := by
  intro b
  induction b with
  | zero => exact (Int.add_zero _).symm
  | succ b ih =>
    show fp_su f (a + b) + f (a + b) = fp_su f a + (fp_su (fun q => f (a + q)) b + f (a + b))
    rw [ih, Int.add_assoc]
theorem fp_su_m (g : Nat → Int) (c : Int) : ∀ N : Nat, fp_su (fun k => g k * c) N = fp_su g N * c := by
  intro N
  induction N with
  | zero => exact (Int.zero_mul _).symm
  | succ N ih =>
    show fp_su (fun k => g k * c) N + g N * c = (fp_su g N + g N) * c
    rw [ih, Int.add_mul]
/-- the part of a runner in a race's number -/
def fp_dj (k j : Nat) : Nat := k / 4 ^ j % 4
theorem fp_dj_4 (k j : Nat) : fp_dj k j < 4 := Nat.mod_lt _ (by decide)
theorem fp_dj_l {n j q d : Nat} (hj : j < n) (hn : n ≤ 3) : fp_dj (d * 4 ^ n + q) j = fp_dj q j := by
  unfold fp_dj
  rcases (show (n = 1 ∧ j = 0) ∨ (n = 2 ∧ j = 0) ∨ (n = 2 ∧ j = 1) ∨ (n = 3 ∧ j = 0) ∨ (n = 3 ∧ j = 1) ∨ (n = 3 ∧ j = 2) by omega) with ⟨rfl, rfl⟩ | ⟨rfl, rfl⟩ | ⟨rfl, rfl⟩ | ⟨rfl, rfl⟩ | ⟨rfl, rfl⟩ | ⟨rfl, rfl⟩
  · show (d * 4 + q) / 1 % 4 = q / 1 % 4; omega
  · show (d * 16 + q) / 1 % 4 = q / 1 % 4; omega
  · show (d * 16 + q) / 4 % 4 = q / 4 % 4; omega
  · show (d * 64 + q) / 1 % 4 = q / 1 % 4; omega
  · show (d * 64 + q) / 4 % 4 = q / 4 % 4; omega
  · show (d * 64 + q) / 16 % 4 = q / 16 % 4; omega
theorem fp_dj_t {n q d : Nat} (hq : q < 4 ^ n) (hd : d < 4) (hn : n ≤ 3) : fp_dj (d * 4 ^ n + q) n = d := by
  unfold fp_dj
  rcases (show n = 0 ∨ n = 1 ∨ n = 2 ∨ n = 3 by omega) with rfl | rfl | rfl | rfl
  · have hq : q < 1 := hq; show (d * 1 + q) / 1 % 4 = d; omega
  · have hq : q < 4 := hq; show (d * 4 + q) / 4 % 4 = d; omega
  · have hq : q < 16 := hq; show (d * 16 + q) / 16 % 4 = d; omega
  · have hq : q < 64 := hq; show (d * 64 + q) / 64 % 4 = d; omega
/-- of all races -/
def fp_al2 (F : am_N) : Int := am_shl 1 (2 * F 0 4)
theorem fp_al2_n {n : Int} (h0 : 0 ≤ n) (h1 : n ≤ 4) : am_shl 1 (2 * n) = ((4 ^ n.toNat : Nat) : Int) := by
  rcases (show n = 0 ∨ n = 1 ∨ n = 2 ∨ n = 3 ∨ n = 4 by omega) with rfl | rfl | rfl | rfl | rfl <;> decide +kernel
theorem fp_al2_b {n : Int} (h0 : 0 ≤ n) (h1 : n ≤ 4) : 1 ≤ am_shl 1 (2 * n) ∧ am_shl 1 (2 * n) ≤ 256 := by
  rw [fp_al2_n h0 h1]
  rcases (show n = 0 ∨ n = 1 ∨ n = 2 ∨ n = 3 ∨ n = 4 by omega) with rfl | rfl | rfl | rfl | rfl <;> decide
theorem fp_djF : ∀ (k : Fin 256) (r : Fin 4), am_and (am_shr ((k : Nat) : Int) (2 * ((r : Nat) : Int))) 3 = ((fp_dj (k : Nat) (r : Nat) : Nat) : Int) := by decide +kernel
theorem fp_djm {k r : Int} (k0 : 0 ≤ k) (k1 : k < 256) (r0 : 0 ≤ r) (r1 : r < 4) : am_and (am_shr k (2 * r)) 3 = ((fp_dj k.toNat r.toNat : Nat) : Int) := by
  have h := fp_djF ⟨k.toNat, by omega⟩ ⟨r.toNat, by omega⟩
  simp only [Int.toNat_of_nonneg k0, Int.toNat_of_nonneg r0] at h
  exact h
theorem fp_su_b {f : Nat → Int} (h : ∀ k : Nat, 0 ≤ f k ∧ f k ≤ 1) : ∀ N : Nat, 0 ≤ fp_su f N ∧ fp_su f N ≤ (N : Int) := by
  intro N
  induction N with
  | zero => exact ⟨(by first | exact Int.le_refl 0 | (show (0 : Int) ≤ 1; decide) | (show (0 : Int) ≤ _; decide) | (show _ ≤ (0 : Int); decide) | (show (1 : Int) ≤ _; decide) | (show (0 : Int) < _; decide)), (by first | exact Int.le_refl 0 | (show (0 : Int) ≤ 1; decide) | (show (0 : Int) ≤ _; decide) | (show _ ≤ (0 : Int); decide) | (show (1 : Int) ≤ _; decide) | (show (0 : Int) < _; decide))⟩
  | succ N ih =>
    have q := h N
    show 0 ≤ fp_su f N + f N ∧ fp_su f N + f N ≤ _
    omega
theorem n_races {l : Launch} {ν : am_N} {Q : Option am_V → am_N → Prop} (k : Q (some (.inl (am_shl 1 (2 * ν 83 14)))) ν) : am_Does l 169 [.inr (.inr 83)] ν Q := by
  refine am_Does_of (Nat.le_of_ble_eq_true rfl) (Nat.le_of_ble_eq_true rfl) (Nat.le_of_ble_eq_true rfl) ?_
  refine am_go (ct := fun _ => false) am_oX7_races 300 ?_
  conv => whnf
  repeat' first
    | (refine (?_ : am_wp _ _ _ _ _ _ _ _ _ _ _ _); conv => whnf)
    | (refine (?_ : am_sw _ _ _ _); conv => whnf)
    | refine And.intro trivial ?_
    | exact trivial
    | exact k
    | refine And.intro (fun h => absurd h (by decide)) (fun _ => ?_)
    | refine And.intro (fun _ => ?_) (fun h => absurd (by decide) h)
    | refine And.intro (fun _ => ?_) (fun _ => ?_)
    | refine And.intro ?_ ?_
  all_goals (first | decide | (trace_state; fail))
theorem x_partTime {l : Launch} {ν : am_N} {Q : Option am_V → am_N → Prop} (r p : Int) (hf : am_fM ν) (r0 : 0 ≤ r) (r1 : r < ν 83 14) (sp : 0 ≤ ν 88 r.toNat ∧ ν 88 r.toNat ≤ 20) (p0 : 0 ≤ p) (p1 : p < 4) (k : ∀ v : Int, v = fp_pt (am_TM ν r.toNat) (ν 88 r.toNat) (p.toNat) → 1 ≤ v → v ≤ 100020 → Q (some (.inl v)) ν) : am_Does l 167 [.inr (.inr 83), .inl r, .inl p] ν Q := by
  refine am_Does_of (Nat.le_of_ble_eq_true rfl) (Nat.le_of_ble_eq_true rfl) (Nat.le_of_ble_eq_true rfl) ?_
  have l0 : am_c 0 = 0 := rfl
  have l1 : am_c 1 = 1 := rfl
  have l2 : am_c 2 = 2 := rfl
  have l3 : am_c 3 = 3 := rfl
  have l4 : am_c 4 = 4 := rfl
  have l20 : am_c 20 = 20 := rfl
  have l200 : am_c 200 = 200 := rfl
  have n4 := hf.1
  have cr : am_c r = r := am_cR (by omega) (by omega)
  have cp : am_c p = p := am_cR (by omega) (by omega)
  have z := am_TM_b (i := r.toNat) hf (by omega)
  have hb := fp_pt_b (t := am_TM ν r.toNat) (s := ν 88 r.toNat) (q := p.toNat) z.1 (by omega) sp.1 sp.2
  have kk := fun (x : Int) (e : x = fp_pt (am_TM ν r.toNat) (ν 88 r.toNat) (p.toNat)) => am_qe (k _ rfl hb.1 hb.2) e
  refine am_go (ct := fun _ => false) am_oX7_partTime 300 ?_
  conv => whnf
  repeat' first
    | (refine (?_ : am_wp _ _ _ _ _ _ _ _ _ _ _ _); conv => whnf)
    | (refine (?_ : am_sw _ _ _ _); conv => whnf)
    | refine And.intro trivial ?_
    | exact trivial
    | ((with_reducible refine (?_ : am_Does _ 164 _ _ _)); refine x_timeOf _ r0 r1 hf ?_)
    | ((with_reducible refine (?_ : am_Does _ 145 _ _ _)); refine x_atLeastOne _ ?_ ?_ ?_)
    | refine kk _ ?_
    | refine And.intro (fun h => absurd h (by decide)) (fun _ => ?_)
    | refine And.intro (fun _ => ?_) (fun h => absurd (by decide) h)
    | refine And.intro (fun _ => ?_) (fun _ => ?_)
    | refine And.intro ?_ ?_
  all_goals (first | decide | omega | (rw [cr]; omega) | (simp only [cr]; omega) | ((try simp only [cr]); unfold fp_pt; first | (rw [if_pos (show p.toNat = 0 by simp only [cp, l0, l3] at *; omega)]) | (rw [if_neg (show ¬ p.toNat = 0 by simp only [cp, l0, l3] at *; omega), if_pos (show p.toNat = 3 by simp only [cp, l0, l3] at *; omega)]) | (rw [if_neg (show ¬ p.toNat = 0 by simp only [cp, l0, l3] at *; omega), if_neg (show ¬ p.toNat = 3 by simp only [cp, l0, l3] at *; omega)])) | (trace_state; fail))
theorem x_takesParts {l : Launch} {ν : am_N} {Q : Option am_V → am_N → Prop} (g : Int) (hf : am_fM ν) (hs : ∀ q : Nat, (q : Int) < ν 83 14 → 0 ≤ ν 88 q ∧ ν 88 q ≤ 20) (g0 : 0 ≤ g) (g1 : g < 256) (k : ∀ μ' : am_N, (∀ a b, a ≠ 99 → a ≠ 100 → μ' a b = ν a b) → am_isord μ' 100 (fun q : Nat => fp_pt (am_TM ν q) (ν 88 q) (fp_dj g.toNat q)) (ν 83 14) → (∀ i : Nat, (i : Int) < ν 83 14 → μ' 99 i = fp_pt (am_TM ν i) (ν 88 i) (fp_dj g.toNat i)) → (sx_3 ν 100 → sx_3 μ' 100) → Q none μ') : am_Does l 168 [.inr (.inr 83), .inl g] ν Q := by
  refine am_Does_of (Nat.le_of_ble_eq_true rfl) (Nat.le_of_ble_eq_true rfl) (Nat.le_of_ble_eq_true rfl) ?_
  have hn := hf.1
  have hq := @am_TM_b ν
  have lp2 : ∀ (m : Nat) (i : Int) (μ : am_N) , (∀ a b, a ≠ 99 → a ≠ 100 → μ a b = ν a b) → 0 ≤ i → i ≤ ν 83 14 → (∀ q : Nat, (q : Int) < i → μ 99 q = fp_pt (am_TM ν q) (ν 88 q) (fp_dj g.toNat q)) → (sx_3 ν 100 → sx_3 μ 100) → ν 83 14 - i < (m : Int) → am_AW l 0 (fun _ => 0) 168 Q 2 [some (.inr (.inr 83)), some (.inl g), some (.inl i)] [] μ := by
    intro m
    induction m with
    | zero =>
      intro i μ hv0 hv1 hv2 hv3 hv4 hm
      exfalso
      omega
    | succ m ih =>
      intro i μ hv0 hv1 hv2 hv3 hv4 hm
      have ci : am_c i = i := am_cR (by omega) (by omega)
      have cn : am_c (ν 83 14) = ν 83 14 := am_cR (by omega) (by omega)
      obtain ⟨h1, h2⟩ := am_fM_e hv0
      have h3 := h1 hf
      have e4 : μ 83 14 = ν 83 14 := hv0 83 14 (by decide) (by decide)
      have e88 : ∀ q, μ 88 q = ν 88 q := fun q => hv0 88 q (by decide) (by decide)
      have dj := fun q : i < 4 => fp_djm g0 g1 hv1 q
      have d4 := fp_dj_4 g.toNat i.toNat
      refine am_go (ct := fun pc => Nat.beq pc 2) am_oX7_takesParts 300 ?_
      conv => whnf
      repeat' first
        | (refine (?_ : am_wp _ _ _ _ _ _ _ _ _ _ _ _); conv => whnf)
        | (refine (?_ : am_sw _ _ _ _); conv => whnf)
        | refine And.intro trivial ?_
        | exact trivial
        | ((with_reducible refine (?_ : am_Does _ 167 _ _ _)); (have hi : i < ν 83 14 := (by simp only [ci, cn, e4] at *; omega); rw [dj (by omega)]; refine x_partTime _ _ h3 hv1 (by rw [e4]; exact hi) (by rw [e88]; exact hs i.toNat (by omega)) (by omega) (by omega) (fun v ev v0 v1 => ?_); rw [h2, e88, Int.toNat_natCast] at ev))
        | ((with_reducible refine (?_ : am_Does _ 165 _ _ _)); refine x_sorts ?_ ?_ ?_ (fun μ2 y1 y2 y3 => ?_))
        | refine k _ ?_ ?_ ?_ ?_
        | ((with_reducible refine (?_ : am_AW _ _ _ _ _ 2 _ _ _)); refine ih _ _ ?_ ?_ ?_ ?_ ?_ ?_)
        | refine And.intro (fun h => absurd h (by decide)) (fun _ => ?_)
        | refine And.intro (fun _ => ?_) (fun h => absurd (by decide) h)
        | refine And.intro (fun _ => ?_) (fun _ => ?_)
        | refine And.intro ?_ ?_
      all_goals (first | decide | assumption | omega | rfl | exact fun z => y3 (hv4 z) | exact fun z => sx_3N (hv4 z) (by decide) | (rw [ci]; omega) | (simp only [ci, cn, e4] at *; omega) | (intro a b h1 h2; rw [am_upN h1]; exact hv0 a b h1 h2) | (intro q hq; by_cases d : (q : Int) = i; (rw [am_upS, if_pos ⟨rfl, by rw [ci]; omega⟩, show q = i.toNat by omega]; exact ev); (rw [am_upM (by rw [ci]; omega)]; exact hv3 q (by omega))) | (have ie : i = ν 83 14 := (by simp only [ci, cn, e4] at *; omega); first | (intro j hj; rw [e4] at hj; rw [hv3 j (by omega)]; have zz := @hq j hf (by omega); have yy := hs j (by omega); have xx := fp_pt_b (t := am_TM ν j) (s := ν 88 j) (q := fp_dj g.toNat j) zz.1 (by omega) yy.1 yy.2; omega) | (intro a b h1 h2; rw [y1 a b h2]; exact hv0 a b h1 h2) | (rw [e4] at y2; exact am_isord_t (fun j hj => hv3 j (by omega)) y2) | (intro j hj; rw [y1 _ _ (by decide)]; exact hv3 j (by omega))) | (trace_state; fail))
  have lp2' : ∀ (i : Int) (μ : am_N) , (∀ a b, a ≠ 99 → a ≠ 100 → μ a b = ν a b) → 0 ≤ i → i ≤ ν 83 14 → (∀ q : Nat, (q : Int) < i → μ 99 q = fp_pt (am_TM ν q) (ν 88 q) (fp_dj g.toNat q)) → (sx_3 ν 100 → sx_3 μ 100) → am_AW l 0 (fun _ => 0) 168 Q 2 [some (.inr (.inr 83)), some (.inl g), some (.inl i)] [] μ := fun i μ hv0 hv1 hv2 hv3 hv4 => lp2 ((ν 83 14 - i) + 1).toNat i μ hv0 hv1 hv2 hv3 hv4 (by omega)
  refine am_go (ct := fun pc => Nat.beq pc 2) am_oX7_takesParts 300 ?_
  conv => whnf
  repeat' first
    | (refine (?_ : am_wp _ _ _ _ _ _ _ _ _ _ _ _); conv => whnf)
    | (refine (?_ : am_sw _ _ _ _); conv => whnf)
    | refine And.intro trivial ?_
    | exact trivial
    | ((with_reducible refine (?_ : am_AW _ _ _ _ _ 2 _ _ _)); refine lp2' _ _ ?_ ?_ ?_ ?_ ?_)
    | refine And.intro (fun h => absurd h (by decide)) (fun _ => ?_)
    | refine And.intro (fun _ => ?_) (fun h => absurd (by decide) h)
    | refine And.intro (fun _ => ?_) (fun _ => ?_)
    | refine And.intro ?_ ?_
  all_goals (first | decide | assumption | omega | rfl | exact fun z => z | exact fun _ _ _ _ => rfl | (intros; omega) | (trace_state; fail))
theorem x_draw_1 {l : Launch} {ν : am_N} {Q : Option am_V → am_N → Prop} (hf : am_fC ν 1) (hs : ∀ q : Nat, (q : Int) < ν 1 4 → 0 ≤ ν 5 q ∧ ν 5 q ≤ 20) (k : ∀ μ' : am_N, (∀ a b, ¬(30 ≤ a ∧ a ≤ 32) → ¬(a = 29 ∧ b = 0) → μ' a b = ν a b) → μ' 29 0 = ν 1 4 → (∀ q : Nat, (q : Int) < ν 1 4 → μ' 30 q = fp_pt (am_TC ν 1 q) (ν 5 q) 0 ∧ μ' 31 q = am_TC ν 1 q ∧ μ' 32 q = am_TC ν 1 q + ν 5 q) → Q none μ') : am_Does l 21 [.inr (.inr 29), .inr (.inr 1)] ν Q := by
  refine am_Does_of (Nat.le_of_ble_eq_true rfl) (Nat.le_of_ble_eq_true rfl) (Nat.le_of_ble_eq_true rfl) ?_
  have l0 : am_c 0 = 0 := rfl
  have l1 : am_c 1 = 1 := rfl
  have l2 : am_c 2 = 2 := rfl
  have l3 : am_c 3 = 3 := rfl
  have l4 : am_c 4 = 4 := rfl
  have l16 : am_c 16 = 16 := rfl
  have hn := hf.1
  have hq := @am_TC_b ν 1
  have lp10 : ∀ (m : Nat) (i : Int) (μ : am_N) , (∀ a b, ¬(30 ≤ a ∧ a ≤ 32) → ¬(a = 29 ∧ b = 0) → μ a b = ν a b) → μ 29 0 = ν 1 4 → 0 ≤ i → i ≤ ν 1 4 → (∀ q : Nat, (q : Int) < i → μ 30 q = fp_pt (am_TC ν 1 q) (ν 5 q) 0 ∧ μ 31 q = am_TC ν 1 q ∧ μ 32 q = am_TC ν 1 q + ν 5 q) → ν 1 4 - i < (m : Int) → am_AW l 0 (fun _ => 0) 21 Q 10 [some (.inr (.inr 29)), some (.inr (.inr 1)), some (.inl i)] [] μ := by
    intro m
    induction m with
    | zero =>
      intro i μ hv0 hv1 hv2 hv3 hv4 hm
      exfalso
      omega
    | succ m ih =>
      intro i μ hv0 hv1 hv2 hv3 hv4 hm
      have ci : am_c i = i := am_cR (by omega) (by omega)
      have cn : am_c (ν 1 4) = ν 1 4 := am_cR (by omega) (by omega)
      obtain ⟨g1, g2⟩ := am_fC_ch (c := 1) (fun a b q1 q2 => hv0 a b (by omega) (by omega))
      have g3 := g1 hf
      have e4 : μ 1 4 = ν 1 4 := hv0 1 4 (by decide) (by decide)
      have eS : μ 5 i.toNat = ν 5 i.toNat := hv0 5 _ (by omega) (by omega)
      have gT := g2 i.toNat
      have eI : (am_c i).toNat = i.toNat := by rw [ci]
      refine am_go (ct := fun pc => Nat.beq pc 10) am_oX2_draw 300 ?_
      conv => whnf
      repeat' first
        | (refine (?_ : am_wp _ _ _ _ _ _ _ _ _ _ _ _); conv => whnf)
        | (refine (?_ : am_sw _ _ _ _); conv => whnf)
        | refine And.intro trivial ?_
        | exact trivial
        | exact g3
        | ((with_reducible refine (?_ : am_Does _ 8 _ _ _)); refine x_tenths_1 _ ?_ ?_ ?_ ?_)
        | ((with_reducible refine (?_ : am_Does _ 22 _ _ _)); (refine x_put _ _ _ ?_ ?_ ?_ ?_ ?_ ?_ (fun μ2 y1 y2 y3 y4 => ?_)))
        | refine k _ ?_ ?_ ?_
        | ((with_reducible refine (?_ : am_AW _ _ _ _ _ 10 _ _ _)); refine ih _ _ ?_ ?_ ?_ ?_ ?_ ?_)
        | refine And.intro (fun h => absurd h (by decide)) (fun _ => ?_)
        | refine And.intro (fun _ => ?_) (fun h => absurd (by decide) h)
        | refine And.intro (fun _ => ?_) (fun _ => ?_)
        | refine And.intro ?_ ?_
      all_goals (first | decide | assumption | omega | (simp only [hv1, ci, cn, e4] at *; omega) | (have hi : i < ν 1 4 := (by simp only [hv1, ci, cn, e4] at *; omega); have z1 := @hq i.toNat hf (by omega); have z2 := hs i.toNat (by omega); simp only [eI, eS, gT]; omega) | (intro a b h1 h2; rw [y1 a b (by omega)]; exact hv0 a b h1 h2) | (rw [y1 29 0 (by omega)]; exact hv1) | (intro q hq; by_cases d : (q : Int) = i; (rw [show q = i.toNat by omega, y2, y3, y4]; refine ⟨?_, ?_, ?_⟩ <;> simp only [eI, eS, gT]); (rw [y1 30 q (by omega), y1 31 q (by omega), y1 32 q (by omega)]; exact hv4 q (by omega))) | (intro q hq; exact hv4 q (by simp only [hv1, ci, cn, e4] at *; omega)) | (trace_state; fail))
  have lp10' : ∀ (i : Int) (μ : am_N) , (∀ a b, ¬(30 ≤ a ∧ a ≤ 32) → ¬(a = 29 ∧ b = 0) → μ a b = ν a b) → μ 29 0 = ν 1 4 → 0 ≤ i → i ≤ ν 1 4 → (∀ q : Nat, (q : Int) < i → μ 30 q = fp_pt (am_TC ν 1 q) (ν 5 q) 0 ∧ μ 31 q = am_TC ν 1 q ∧ μ 32 q = am_TC ν 1 q + ν 5 q) → am_AW l 0 (fun _ => 0) 21 Q 10 [some (.inr (.inr 29)), some (.inr (.inr 1)), some (.inl i)] [] μ := fun i μ hv0 hv1 hv2 hv3 hv4 => lp10 ((ν 1 4 - i) + 1).toNat i μ hv0 hv1 hv2 hv3 hv4 (by omega)
  refine am_go (ct := fun pc => Nat.beq pc 10) am_oX2_draw 300 ?_
  conv => whnf
  repeat' first
    | (refine (?_ : am_wp _ _ _ _ _ _ _ _ _ _ _ _); conv => whnf)
    | (refine (?_ : am_sw _ _ _ _); conv => whnf)
    | refine And.intro trivial ?_
    | exact trivial
    | ((with_reducible refine (?_ : am_AW _ _ _ _ _ 10 _ _ _)); refine lp10' _ _ ?_ ?_ ?_ ?_ ?_)
    | refine And.intro (fun h => absurd h (by decide)) (fun _ => ?_)
    | refine And.intro (fun _ => ?_) (fun h => absurd (by decide) h)
    | refine And.intro (fun _ => ?_) (fun _ => ?_)
    | refine And.intro ?_ ?_
  all_goals (first | decide | assumption | omega | rfl | (intro a b h1 h2; rw [am_upS, if_neg h2]) | (exact if_pos ⟨rfl, rfl⟩) | (intros; omega) | (trace_state; fail))
theorem s_allWays {l : Launch} {ν : am_N} {Q : Option am_V → am_N → Prop} (k : Q (some (.inl (am_shl 1 (2 * ν 29 0)))) ν) : am_Does l 23 [.inr (.inr 29)] ν Q := by
  refine am_Does_of (Nat.le_of_ble_eq_true rfl) (Nat.le_of_ble_eq_true rfl) (Nat.le_of_ble_eq_true rfl) ?_
  refine am_go (ct := fun _ => false) am_oX2_allWays 300 ?_
  conv => whnf
  repeat' first
    | (refine (?_ : am_wp _ _ _ _ _ _ _ _ _ _ _ _); conv => whnf)
    | (refine (?_ : am_sw _ _ _ _); conv => whnf)
    | refine And.intro trivial ?_
    | exact trivial
    | exact k
    | refine And.intro (fun h => absurd h (by decide)) (fun _ => ?_)
    | refine And.intro (fun _ => ?_) (fun h => absurd (by decide) h)
    | refine And.intro (fun _ => ?_) (fun _ => ?_)
    | refine And.intro ?_ ?_
  all_goals (first | decide | (trace_state; fail))
theorem sx_dr {ν μ : am_N} (hS : sx ν ν) (f : ∀ a b, ¬(30 ≤ a ∧ a ≤ 32) → ¬(a = 29 ∧ b = 0) → a ≠ 78 → μ a b = ν a b) (h29 : 0 ≤ μ 29 0 ∧ μ 29 0 ≤ 4) : sx ν μ := sx_ad hS (fun a b _ q2 q3 q4 => f a b q2 q3 q4) (by rw [f 15 4 (by omega) (by omega) (by omega)]; exact hS.2.2.2.1.2.1) h29
