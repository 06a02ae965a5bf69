/-! how uneven a field is -/
theorem fp_wa_c (L M H : Nat → Int) (i : Nat) (t : Int) : ∀ n : Nat, i < n → fp_wa L M H i t n * 4 ≤ (4 ^ n : Nat) := by
  intro n
  induction n with
  | zero => intro h; exact absurd h (by omega)
  | succ n ih =>
    intro h
    have e : (((4 ^ (n + 1) : Nat)) : Int) = (4 ^ n : Nat) * 4 := by rw [Nat.pow_succ]; omega
    simp only [fp_wa]
    by_cases d : n = i
    · rw [if_pos d, e]
      have q := fp_wa_b L M H i t n
      omega
    · rw [if_neg d, e]
      have q := fp_qu_b (L n) (M n) (H n) (if n < i then t + 1 else t)
      have p := fp_wa_b L M H i t n
      have z := am_mulb (a := fp_wa L M H i t n * 4) (by omega) (ih (by omega)) q.1 q.2
      rw [Int.mul_right_comm]
      exact z.2
theorem fp_lw_c {F : am_N} {r : Nat} (h4 : F 0 4 ≤ 4) (hr : (r : Int) < F 0 4) : 0 ≤ fp_lw F r ∧ fp_lw F r ≤ 256 := by
  have b := fp_lw_b h4 r
  have q := fun t => fp_wa_c (fun q => fp_pt (fp_tf F q) (F 4 q) 0) (fp_tf F) (fun q => fp_tf F q + F 4 q) r t (F 0 4).toNat (by omega)
  have a1 := q (fp_pt (fp_tf F r) (F 4 r) 0)
  have a2 := q (fp_tf F r)
  have a3 := q (fp_tf F r + F 4 r)
  have p : ((4 ^ (F 0 4).toNat : Nat) : Int) ≤ 256 := by
    rcases (show (F 0 4).toNat = 0 ∨ (F 0 4).toNat = 1 ∨ (F 0 4).toNat = 2 ∨ (F 0 4).toNat = 3 ∨ (F 0 4).toNat = 4 by omega) with z | z | z | z | z <;> rw [z] <;> decide
  refine ⟨b.1, ?_⟩
  unfold fp_lw fp_wy
  simp only
  omega
def fp_ux (f : Nat → Int) : Nat → Int
  | 0 => 0
  | r + 1 => if fp_ux f r < f r then f r else fp_ux f r
def fp_ui (g : Int) (f : Nat → Int) : Nat → Int
  | 0 => g
  | r + 1 => if f r < fp_ui g f r then f r else fp_ui g f r
/-- UNEVEN, of all races -/
def fp_un (F : am_N) : Int := fp_ux (fp_lw F) (F 0 4).toNat - fp_ui (fp_al2 F) (fp_lw F) (F 0 4).toNat
theorem fp_ux_b {f : Nat → Int} : ∀ n : Nat, (∀ r : Nat, r < n → 0 ≤ f r ∧ f r ≤ 256) → 0 ≤ fp_ux f n ∧ fp_ux f n ≤ 256 := by
  intro n
  induction n with
  | zero => intro _; exact ⟨(by first | exact Int.le_refl 0 | (show (0 : Int) ≤ 1; decide) | (show (0 : Int) ≤ _; decide) | (show _ ≤ (0 : Int); decide) | (show (1 : Int) ≤ _; decide) | (show (0 : Int) < _; decide)), (by first | exact Int.le_refl 0 | (show (0 : Int) ≤ 1; decide) | (show (0 : Int) ≤ _; decide) | (show _ ≤ (0 : Int); decide) | (show (1 : Int) ≤ _; decide) | (show (0 : Int) < _; decide))⟩
  | succ n ih =>
    intro h
    have q := ih (fun r hr => h r (by omega))
    have p := h n (by omega)
    simp only [fp_ux]
    split <;> omega
theorem fp_ui_b {g : Int} {f : Nat → Int} (g0 : 0 ≤ g) (g1 : g ≤ 256) : ∀ n : Nat, (∀ r : Nat, r < n → 0 ≤ f r ∧ f r ≤ 256) → 0 ≤ fp_ui g f n ∧ fp_ui g f n ≤ 256 := by
  intro n
  induction n with
  | zero => intro _; exact ⟨g0, g1⟩
  | succ n ih =>
    intro h
    have q := ih (fun r hr => h r (by omega))
    have p := h n (by omega)
    simp only [fp_ui]
    split <;> omega
theorem fp_un_b {F : am_N} (h0 : 0 ≤ F 0 4) (h4 : F 0 4 ≤ 4) : -256 ≤ fp_un F ∧ fp_un F ≤ 256 := by
  have a := fp_al2_b h0 h4
  have x := fp_ux_b (f := fp_lw F) (F 0 4).toNat (fun r hr => fp_lw_c h4 (by omega))
  have y := fp_ui_b (g := fp_al2 F) (f := fp_lw F) (by unfold fp_al2; omega) (by unfold fp_al2; omega) (F 0 4).toNat (fun r hr => fp_lw_c h4 (by omega))
  unfold fp_un
  omega
theorem x_uneven {l : Launch} {ν : am_N} {Q : Option am_V → am_N → Prop} (G : am_N) (n0 : 0 ≤ ν 29 0) (n1 : ν 29 0 ≤ 4) (en : G 0 4 = ν 29 0) (hb : ∀ j : Nat, (j : Int) < ν 29 0 → (0 ≤ ν 30 j ∧ ν 30 j ≤ 200000) ∧ (0 ≤ ν 31 j ∧ ν 31 j ≤ 200000) ∧ (0 ≤ ν 32 j ∧ ν 32 j ≤ 200000)) (hr : ∀ r : Nat, (r : Int) < ν 29 0 → fp_wy (ν 30) (ν 31) (ν 32) (ν 29 0).toNat r = fp_lw G r) (k : Q (some (.inl (fp_un G))) ν) : am_Does l 27 [.inr (.inr 29)] ν Q := by
  refine am_Does_of (Nat.le_of_ble_eq_true rfl) (Nat.le_of_ble_eq_true rfl) (Nat.le_of_ble_eq_true rfl) ?_
  have l0 : am_c 0 = 0 := rfl
  have l1 : am_c 1 = 1 := rfl
  have l2 : am_c 2 = 2 := rfl
  have l4 : am_c 4 = 4 := rfl
  have l9 : am_c 9 = 9 := rfl
  have l10 : am_c 10 = 10 := rfl
  have l20 : am_c 20 = 20 := rfl
  have l200 : am_c 200 = 200 := rfl
  have l999 : am_c 999 = 999 := rfl
  have cn : am_c (ν 29 0) = ν 29 0 := am_cR (by omega) (by omega)
  have al := fp_al2_b n0 n1
  have ea : fp_al2 G = am_shl 1 (2 * ν 29 0) := by unfold fp_al2; rw [en]
  have lp9 : ∀ (m : Nat) (x y i : Int) (o4 : Option am_V) , 0 ≤ i → i ≤ ν 29 0 → x = fp_ux (fp_lw G) i.toNat → y = fp_ui (fp_al2 G) (fp_lw G) i.toNat → ν 29 0 - i < (m : Int) → am_AW l 0 (fun _ => 0) 27 Q 9 [some (.inr (.inr 29)), some (.inl x), some (.inl y), some (.inl i), o4] [] ν := by
    intro m
    induction m with
    | zero =>
      intro x y i o4  hv0 hv1 hv2 hv3 hm
      exfalso
      omega
    | succ m ih =>
      intro x y i o4  hv0 hv1 hv2 hv3 hm
      have ci : am_c i = i := am_cR (by omega) (by omega)
      have lb := fun r : Nat => fun q : r < i.toNat => fp_lw_c (F := G) (r := r) (by omega) (by omega)
      have xb := fp_ux_b (f := fp_lw G) i.toNat lb
      have yb := fp_ui_b (g := fp_al2 G) (f := fp_lw G) (by omega) (by omega) i.toNat lb
      have cx : am_c x = x := am_cR (by omega) (by omega)
      have cy : am_c y = y := am_cR (by omega) (by omega)
      refine am_go (ct := fun pc => Nat.beq pc 9) am_oX2_uneven 300 ?_
      conv => whnf
      repeat' first
        | (refine (?_ : am_wp _ _ _ _ _ _ _ _ _ _ _ _); conv => whnf)
        | (refine (?_ : am_sw _ _ _ _); conv => whnf)
        | refine And.intro trivial ?_
        | exact trivial
        | ((with_reducible refine (?_ : am_Does _ 24 _ _ _)); (have hi : i < ν 29 0 := (by rw [ci, cn] at *; omega); have wb := fp_lw_c (F := G) (r := i.toNat) (by omega) (by omega); have cl : am_c (fp_lw G i.toNat) = fp_lw G i.toNat := am_cR (by omega) (by omega); refine x_ways i hv0 hi n1 hb ?_; rw [hr i.toNat (by omega)]))
        | refine am_qe k ?_
        | ((with_reducible refine (?_ : am_Does _ 23 _ _ _)); refine s_allWays ?_)
        | ((with_reducible refine (?_ : am_AW _ _ _ _ _ 9 _ _ _)); refine ih _ _ _ _  ?_ ?_ ?_ ?_ ?_)
        | refine And.intro (fun h => absurd h (by decide)) (fun _ => ?_)
        | refine And.intro (fun _ => ?_) (fun h => absurd (by decide) h)
        | refine And.intro (fun _ => ?_) (fun _ => ?_)
        | refine And.intro ?_ ?_
      all_goals (first | decide | assumption | omega | (rw [show (i + 1).toNat = i.toNat + 1 by omega]; simp only [fp_ux, fp_ui]; rw [cl]; first | (rw [cx, hv2]) | (rw [cy, hv3])) | (unfold fp_un; rw [hv2, hv3, en, show i.toNat = (ν 29 0).toNat by rw [ci, cn] at *; omega]) | (trace_state; fail))
  have lp9' : ∀ (x y i : Int) (o4 : Option am_V) , 0 ≤ i → i ≤ ν 29 0 → x = fp_ux (fp_lw G) i.toNat → y = fp_ui (fp_al2 G) (fp_lw G) i.toNat → am_AW l 0 (fun _ => 0) 27 Q 9 [some (.inr (.inr 29)), some (.inl x), some (.inl y), some (.inl i), o4] [] ν := fun x y i o4  hv0 hv1 hv2 hv3 => lp9 ((ν 29 0 - i) + 1).toNat x y i o4  hv0 hv1 hv2 hv3 (by omega)
  refine am_go (ct := fun pc => Nat.beq pc 9) am_oX2_uneven 300 ?_
  conv => whnf
  repeat' first
    | (refine (?_ : am_wp _ _ _ _ _ _ _ _ _ _ _ _); conv => whnf)
    | (refine (?_ : am_sw _ _ _ _); conv => whnf)
    | refine And.intro trivial ?_
    | exact trivial
    | ((with_reducible refine (?_ : am_Does _ 23 _ _ _)); refine s_allWays ?_)
    | ((with_reducible refine (?_ : am_AW _ _ _ _ _ 9 _ _ _)); refine lp9' _ _ _ _  ?_ ?_ ?_ ?_)
    | refine And.intro (fun h => absurd h (by decide)) (fun _ => ?_)
    | refine And.intro (fun _ => ?_) (fun h => absurd (by decide) h)
    | refine And.intro (fun _ => ?_) (fun _ => ?_)
    | refine And.intro ?_ ?_
  all_goals (first | decide | assumption | omega | rfl | exact ea.symm | (trace_state; fail))
theorem n_uneven {l : Launch} {ν : am_N} {Q : Option am_V → am_N → Prop} (hm : mi ν) (hw : fp_fw 999 (mv ν)) (k : ∀ μ' : am_N, gm ms ν μ' → (∀ a b, a ≠ 99 → a ≠ 100 → a ≠ 104 → μ' a b = ν a b) → Q (some (.inl (fp_un (mv ν)))) μ') : am_Does l 183 [.inr (.inr 83)] ν Q := by
  refine am_Does_of (Nat.le_of_ble_eq_true rfl) (Nat.le_of_ble_eq_true rfl) (Nat.le_of_ble_eq_true rfl) ?_
  have l0 : am_c 0 = 0 := rfl
  have l1 : am_c 1 = 1 := rfl
  have l2 : am_c 2 = 2 := rfl
  have l4 : am_c 4 = 4 := rfl
  have l9 : am_c 9 = 9 := rfl
  have l10 : am_c 10 = 10 := rfl
  have l20 : am_c 20 = 20 := rfl
  have l200 : am_c 200 = 200 := rfl
  have l999 : am_c 999 = 999 := rfl
  obtain ⟨hf, -, -, -, -, -, hx⟩ := fw_M hw (by decide)
  have f0 := hf.1.1
  have f1 := hf.1.2
  have e4 : mv ν 0 4 = ν 83 14 := rfl
  have cn : am_c (ν 83 14) = ν 83 14 := am_cR (by omega) (by omega)
  have al := fp_al2_b f0 f1
  have ea : fp_al2 (mv ν) = am_shl 1 (2 * ν 83 14) := rfl
  have lp13 : ∀ (m : Nat) (x y i : Int) (μ : am_N) , gm ms ν μ → (∀ a b, a ≠ 99 → a ≠ 100 → a ≠ 104 → μ a b = ν a b) → (∀ r : Nat, (r : Int) < ν 83 14 → μ 104 r = fp_lw (mv ν) r) → 0 ≤ i → i ≤ ν 83 14 → x = fp_ux (fp_lw (mv ν)) i.toNat → y = fp_ui (fp_al2 (mv ν)) (fp_lw (mv ν)) i.toNat → ν 83 14 - i < (m : Int) → am_AW l 0 (fun _ => 0) 183 Q 13 [some (.inr (.inr 83)), some (.inl x), some (.inl y), some (.inl i)] [] μ := by
    intro m
    induction m with
    | zero =>
      intro x y i μ hv0 hv1 hv2 hv3 hv4 hv5 hv6 hm
      exfalso
      omega
    | succ m ih =>
      intro x y i μ hv0 hv1 hv2 hv3 hv4 hv5 hv6 hm
      have ci : am_c i = i := am_cR (by omega) (by omega)
      have e14 : μ 83 14 = ν 83 14 := hv0.2 83 14 rfl
      have lb := fun r : Nat => fun q : r < i.toNat => fp_lw_c (F := mv ν) (r := r) f1 (by rw [e4]; omega)
      have xb := fp_ux_b (f := fp_lw (mv ν)) i.toNat lb
      have yb := fp_ui_b (g := fp_al2 (mv ν)) (f := fp_lw (mv ν)) (by omega) (by omega) i.toNat lb
      have cx : am_c x = x := am_cR (by omega) (by omega)
      have cy : am_c y = y := am_cR (by omega) (by omega)
      have w104 := fun q : i < ν 83 14 => (show μ 104 (am_c i).toNat = fp_lw (mv ν) i.toNat by rw [ci]; exact hv2 i.toNat (by omega))
      have wb := fun q : i < ν 83 14 => fp_lw_c (F := mv ν) (r := i.toNat) f1 (by rw [e4]; omega)
      have cl := fun q : i < ν 83 14 => (show am_c (fp_lw (mv ν) i.toNat) = fp_lw (mv ν) i.toNat from am_cR (by have z := wb q; omega) (by have z := wb q; omega))
      have kk := fun (x : Int) (e : x = fp_un (mv ν)) => am_qe (k μ hv0 hv1) e
      refine am_go (ct := fun pc => Nat.beq pc 13) am_oX7_uneven 300 ?_
      conv => whnf
      repeat' first
        | (refine (?_ : am_wp _ _ _ _ _ _ _ _ _ _ _ _); conv => whnf)
        | (refine (?_ : am_sw _ _ _ _); conv => whnf)
        | refine And.intro trivial ?_
        | exact trivial
        | (refine (?_ : gm _ _ _); (first | decide | assumption | omega | (rw [ci]; rw [ci, e14, cn] at *; omega) | (simp only [ci, e14, cn] at *; omega) | (have hi : i < ν 83 14 := (by simp only [ci, e14, cn] at *; omega); have wl := w104 hi; have cl := cl hi; rw [show (i + 1).toNat = i.toNat + 1 by omega]; simp only [fp_ux, fp_ui]; first | (rw [wl, ← hv5, if_pos (by simp only [wl, cl, cx] at *; omega)]) | (rw [← hv5, if_neg (by simp only [wl, cl, cx] at *; omega)]) | (rw [wl, ← hv6, if_pos (by simp only [wl, cl, cy] at *; omega)]) | (rw [← hv6, if_neg (by simp only [wl, cl, cy] at *; omega)])) | (unfold fp_un; rw [hv5, hv6, e4, show i.toNat = (ν 83 14).toNat by rw [ci, e14, cn] at *; omega]) | (trace_state; fail)))
        | refine kk _ ?_
        | ((with_reducible refine (?_ : am_Does _ 182 _ _ _)); (refine n_findFirsts hm hw (fun μ1 h1 g1 v1 => ?_); have e14 : μ1 83 14 = ν 83 14 := h1.2 83 14 rfl))
        | ((with_reducible refine (?_ : am_Does _ 169 _ _ _)); (refine n_races ?_; rw [e14]))
        | ((with_reducible refine (?_ : am_AW _ _ _ _ _ 13 _ _ _)); refine ih _ _ _ _ ?_ ?_ ?_ ?_ ?_ ?_ ?_ ?_)
        | refine And.intro (fun h => absurd h (by decide)) (fun _ => ?_)
        | refine And.intro (fun _ => ?_) (fun h => absurd (by decide) h)
        | refine And.intro (fun _ => ?_) (fun _ => ?_)
        | refine And.intro ?_ ?_
      all_goals (first | decide | assumption | omega | (rw [ci]; rw [ci, e14, cn] at *; omega) | (simp only [ci, e14, cn] at *; omega) | (have hi : i < ν 83 14 := (by simp only [ci, e14, cn] at *; omega); have wl := w104 hi; have cl := cl hi; rw [show (i + 1).toNat = i.toNat + 1 by omega]; simp only [fp_ux, fp_ui]; first | (rw [wl, ← hv5, if_pos (by simp only [wl, cl, cx] at *; omega)]) | (rw [← hv5, if_neg (by simp only [wl, cl, cx] at *; omega)]) | (rw [wl, ← hv6, if_pos (by simp only [wl, cl, cy] at *; omega)]) | (rw [← hv6, if_neg (by simp only [wl, cl, cy] at *; omega)])) | (unfold fp_un; rw [hv5, hv6, e4, show i.toNat = (ν 83 14).toNat by rw [ci, e14, cn] at *; omega]) | (trace_state; fail))
  have lp13' : ∀ (x y i : Int) (μ : am_N) , gm ms ν μ → (∀ a b, a ≠ 99 → a ≠ 100 → a ≠ 104 → μ a b = ν a b) → (∀ r : Nat, (r : Int) < ν 83 14 → μ 104 r = fp_lw (mv ν) r) → 0 ≤ i → i ≤ ν 83 14 → x = fp_ux (fp_lw (mv ν)) i.toNat → y = fp_ui (fp_al2 (mv ν)) (fp_lw (mv ν)) i.toNat → am_AW l 0 (fun _ => 0) 183 Q 13 [some (.inr (.inr 83)), some (.inl x), some (.inl y), some (.inl i)] [] μ := fun x y i μ hv0 hv1 hv2 hv3 hv4 hv5 hv6 => lp13 ((ν 83 14 - i) + 1).toNat x y i μ hv0 hv1 hv2 hv3 hv4 hv5 hv6 (by omega)
  refine am_go (ct := fun pc => Nat.beq pc 13) am_oX7_uneven 300 ?_
  conv => whnf
  repeat' first
    | (refine (?_ : am_wp _ _ _ _ _ _ _ _ _ _ _ _); conv => whnf)
    | (refine (?_ : am_sw _ _ _ _); conv => whnf)
    | refine And.intro trivial ?_
    | exact trivial
    | (refine (?_ : gm _ _ _); (first | decide | assumption | omega | rfl | exact ea.symm | (trace_state; fail)))
    | ((with_reducible refine (?_ : am_Does _ 182 _ _ _)); (refine n_findFirsts hm hw (fun μ1 h1 g1 v1 => ?_); have e14 : μ1 83 14 = ν 83 14 := h1.2 83 14 rfl))
    | ((with_reducible refine (?_ : am_Does _ 169 _ _ _)); (refine n_races ?_; rw [e14]))
    | ((with_reducible refine (?_ : am_AW _ _ _ _ _ 13 _ _ _)); refine lp13' _ _ _ _ ?_ ?_ ?_ ?_ ?_ ?_ ?_)
    | refine And.intro (fun h => absurd h (by decide)) (fun _ => ?_)
    | refine And.intro (fun _ => ?_) (fun h => absurd (by decide) h)
    | refine And.intro (fun _ => ?_) (fun _ => ?_)
    | refine And.intro ?_ ?_
  all_goals (first | decide | assumption | omega | rfl | exact ea.symm | (trace_state; fail))
