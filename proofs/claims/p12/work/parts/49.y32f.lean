theorem n_close {l : Launch} {ν : am_N} {Q : Option am_V → am_N → Prop} (x w : Int) (cx : am_c x = x) (cw : am_c w = w) (hm : mi ν) (hw : fp_fw 999 (mv ν)) (k : ∀ μ' : am_N, gm ms ν μ' → Q (some (.inr (.inl (fp_clr (mv ν) x w)))) μ') : am_Does l 190 [.inr (.inr 83), .inl x, .inl w] ν Q := by
  refine am_Does_of (Nat.le_of_ble_eq_true rfl) (Nat.le_of_ble_eq_true rfl) (Nat.le_of_ble_eq_true rfl) ?_
  have l0 : am_c 0 = 0 := rfl
  have l1 : am_c 1 = 1 := rfl
  have l2 : am_c 2 = 2 := rfl
  have l3 : am_c 3 = 3 := rfl
  have l10 : am_c 10 = 10 := rfl
  have m1' : am_c (-1) = -1 := rfl
  have m2' : am_c (-2) = -2 := rfl
  have m3' : am_c (-3) = -3 := rfl
  have hm0 := hm
  obtain ⟨hf, -, -, -, -, -, hx⟩ := fw_M hw (by decide)
  have f0 := hf.1.1
  have f1 := hf.1.2
  have e4 : mv ν 0 4 = ν 83 14 := rfl
  have al := fp_al2_b f0 f1
  have eA := fp_al2_n f0 f1
  have hs : ∀ q : Nat, (q : Int) < ν 83 14 → 0 ≤ ν 88 q ∧ ν 88 q ≤ 20 := fun q hq => (hx q hq).2.2.2
  have ea : fp_al2 (mv ν) = am_shl 1 (2 * ν 83 14) := rfl
  have cA : am_c (am_shl 1 (2 * ν 83 14)) = am_shl 1 (2 * ν 83 14) := am_cR (by omega) (by omega)
  have p256 := (fp_p4 f0 f1).1
  have cn : am_c (ν 83 14) = ν 83 14 := am_cR (by omega) (by omega)
  have gb := fp_gA_b hw
  have ub := fp_un_b (F := (mv ν)) f0 f1
  have cu : am_c (fp_un (mv ν)) = fp_un (mv ν) := am_cR (by omega) (by omega)
  have u0 := fun z : 1 ≤ ν 83 14 => fp_un_0 (F := (mv ν)) z
  have kk := fun (x' : Int) (μ' : am_N) (h : gm ms ν μ') (e : x' = fp_clr (mv ν) x w) => am_qd (k μ' h) e
  have lp74 : ∀ (m : Nat) (s i : Int) (μ : am_N) , (∀ a b, a ≠ 99 → a ≠ 100 → μ a b = ν a b) → sx_3 μ 100 → 0 ≤ i → i ≤ am_shl 1 (2 * ν 83 14) → s = fp_su (fun k => fp_gz (fp_tp (mv ν) k) (ν 83 14)) i.toNat → x = 0 → (w = 0 ∨ w = 1) → 2 ≤ ν 83 14 → am_shl 1 (2 * ν 83 14) - i < (m : Int) → am_AW l 0 (fun _ => 0) 190 Q 74 [some (.inr (.inr 83)), some (.inl x), some (.inl w), some (.inl 0), some (.inr (.inl s)), none, some (.inl i)] [] μ := by
    intro m
    induction m with
    | zero =>
      intro s i μ hv0 hv1 hv2 hv3 hv4 hv5 hv6 hv7 hm
      exfalso
      omega
    | succ m ih =>
      intro s i μ hv0 hv1 hv2 hv3 hv4 hv5 hv6 hv7 hm
      have ci : am_c i = i := am_cR (by omega) (by omega)
      have n8 : μ 83 14 = ν 83 14 := hv0 83 14 (by decide) (by decide)
      obtain ⟨h1, h2⟩ := am_fM_e hv0
      have h3 := h1 hf
      have hE : gm ms ν μ := ⟨mi_rc hm0 (fun a b q => hv0 a b (by omega) (by omega)) hv1, fun a b ha => hv0 a b (fun z => by rw [z] at ha; cases ha) (fun z => by rw [z] at ha; cases ha)⟩
      refine am_go (ct := fun pc => Nat.beq pc 74) am_oX7_close 300 ?_
      conv => whnf
      repeat' first
        | (refine (?_ : am_wp _ _ _ _ _ _ _ _ _ _ _ _); conv => whnf)
        | (refine (?_ : am_sw _ _ _ _); conv => whnf)
        | refine And.intro trivial ?_
        | exact trivial
        | ((with_reducible refine (?_ : am_Does _ 169 _ _ _)); first | (refine n_races ?_; rw [n8]) | (refine n_races ?_; rw [g1 83 14 (by decide) (by decide) (by decide)]))
        | ((with_reducible refine (?_ : am_Does _ 168 _ _ _)); (have iN : i < am_shl 1 (2 * ν 83 14) := (by rw [n8] at *; (simp only [ci, cA] at *; first | done | omega)); refine x_takesParts i h3 (fun q hq => by rw [hv0 88 q (by decide) (by decide)]; exact hs q (by rw [n8] at hq; exact hq)) hv2 (by omega) (fun μ2 y1 y2 y3 y4 => ?_); rw [n8] at y2 y3; have m8 : μ2 83 14 = ν 83 14 := (y1 83 14 (by decide) (by decide)).trans n8; have u2 : ∀ q : Nat, (q : Int) < ν 83 14 → fp_pt (am_TM μ q) (μ 88 q) (fp_dj i.toNat q) = fp_tp (mv ν) i.toNat q := (fun q hq => by rw [h2, hv0 88 q (by decide) (by decide), mv_T (by omega), ← show mv ν 4 q = ν 88 q from mv_a (a := 3) (by decide) (by omega)]; rfl); have f2 : ∀ a b, a ≠ 99 → a ≠ 100 → μ2 a b = ν a b := (fun a b q1 q2 => (y1 a b q1 q2).trans (hv0 a b q1 q2))))
        | ((with_reducible refine (?_ : am_Does _ 189 _ _ _)); (have T := fp_tp (mv ν) i.toNat; have b0 := fp_od_b (fp_tp (mv ν) i.toNat) (ν 83 14) 0; have b1 := fp_od_b (fp_tp (mv ν) i.toNat) (ν 83 14) 1; have o0 : fp_od (fp_tp (mv ν) i.toNat) (ν 83 14) 0 < ν 83 14 := fp_od_n f1 (by decide) (by omega); have o1 : fp_od (fp_tp (mv ν) i.toNat) (ν 83 14) 1 < ν 83 14 := fp_od_n f1 (by decide) (by omega); have gz := fp_gz_b f1 (fp_tp_b hw i.toNat) (by decide); have eg : fp_tp (mv ν) i.toNat (fp_od (fp_tp (mv ν) i.toNat) (ν 83 14) 1).toNat - fp_tp (mv ν) i.toNat (fp_od (fp_tp (mv ν) i.toNat) (ν 83 14) 0).toNat = fp_gz (fp_tp (mv ν) i.toNat) (ν 83 14) := (if_pos (by omega : 1 < ν 83 14)).symm; have cz : am_c (fp_gz (fp_tp (mv ν) i.toNat) (ν 83 14)) = fp_gz (fp_tp (mv ν) i.toNat) (ν 83 14) := am_cR (by omega) (by omega); refine n_gap (fp_od (fp_tp (mv ν) i.toNat) (ν 83 14) 0) (fp_od (fp_tp (mv ν) i.toNat) (ν 83 14) 1) ((fp_od_o f1 y2 0 (by omega)).trans (fp_od_i2 (p := 0) f1 (by omega) u2)) ((fp_od_o f1 y2 1 (by omega)).trans (fp_od_i2 (p := 1) f1 (by omega) u2)) (by omega) (by omega) (by omega) (by omega) ?_; rw [y3 _ (by omega), y3 _ (by omega), u2 _ (by omega), u2 _ (by omega), eg]))
        | ((with_reducible refine (?_ : am_Does _ 185 _ _ _)); first | (have iE : i.toNat = 4 ^ (ν 83 14).toNat := (by (simp only [ci, cA] at *; first | done | omega)); have sE : s = fp_gA (mv ν) := (by rw [hv4, iE]; rfl); rw [sE, cA]; refine n_partOf _ _ _ cw gb.1 (by omega) (by omega) (by omega) ?_) | (rw [cu, cA]; refine n_partOf _ _ _ cw (u0 (by omega)) (by omega) (by omega) (by omega) ?_))
        | refine kk _ _ hE ?_
        | ((with_reducible refine (?_ : am_Does _ 143 _ _ _)); first | (have _q := zx; refine x_isIn w _ _ _ rfl cw ?_ ?_ (fun _ _ => ?_) (fun _ => ?_)) | refine x_isIn x _ _ _ rfl cx ?_ ?_ (fun zx _ => ?_) (fun _ => ?_))
        | ((with_reducible refine (?_ : am_Does _ 142 _ _ _)); refine x_lowest _ ?_ (fun μr fr => ?_))
        | ((with_reducible refine (?_ : am_Does _ 183 _ _ _)); (have n2 : 2 ≤ ν 83 14 := (by (simp only [cn, l2] at *; first | done | omega)); refine n_uneven hm0 hw (fun μ1 h1 g1 => ?_)))
        | refine kk _ _ h1 ?_
        | refine kk _ _ (mi_84 hm fr) ?_
        | refine And.intro (fun h => absurd h (by omega)) (fun _ => ?_)
        | refine And.intro (fun _ => ?_) (fun h => absurd h (by omega))
        | ((with_reducible refine (?_ : am_AW _ _ _ _ _ 74 _ _ _)); refine ih _ _ _ ?_ ?_ ?_ ?_ ?_ ?_ ?_ ?_ ?_)
        | refine And.intro (fun h => absurd h (by decide)) (fun _ => ?_)
        | refine And.intro (fun _ => ?_) (fun h => absurd (by decide) h)
        | refine And.intro (fun _ => ?_) (fun _ => ?_)
        | refine And.intro ?_ ?_
      all_goals (first | omega | (with_reducible assumption) | (intro a b q1 q2; exact f2 a b q1 q2) | exact y4 hv1 | (rw [cz, show (i + 1).toNat = i.toNat + 1 by omega, hv4]; rfl) | (unfold fp_clr; rw [if_neg (by omega), e4, if_neg (by omega), if_pos hv5, ea]) | decide | assumption | (trace_state; fail))
  have lp74' : ∀ (s i : Int) (μ : am_N) , (∀ a b, a ≠ 99 → a ≠ 100 → μ a b = ν a b) → sx_3 μ 100 → 0 ≤ i → i ≤ am_shl 1 (2 * ν 83 14) → s = fp_su (fun k => fp_gz (fp_tp (mv ν) k) (ν 83 14)) i.toNat → x = 0 → (w = 0 ∨ w = 1) → 2 ≤ ν 83 14 → am_AW l 0 (fun _ => 0) 190 Q 74 [some (.inr (.inr 83)), some (.inl x), some (.inl w), some (.inl 0), some (.inr (.inl s)), none, some (.inl i)] [] μ := fun s i μ hv0 hv1 hv2 hv3 hv4 hv5 hv6 hv7 => lp74 ((am_shl 1 (2 * ν 83 14) - i) + 1).toNat s i μ hv0 hv1 hv2 hv3 hv4 hv5 hv6 hv7 (by omega)
  refine am_go (ct := fun pc => Nat.beq pc 74) am_oX7_close 300 ?_
  conv => whnf
  repeat' first
    | (refine (?_ : am_wp _ _ _ _ _ _ _ _ _ _ _ _); conv => whnf)
    | (refine (?_ : am_sw _ _ _ _); conv => whnf)
    | refine And.intro trivial ?_
    | exact trivial
    | ((with_reducible refine (?_ : am_Does _ 143 _ _ _)); first | (have _q := zx; refine x_isIn w _ _ _ rfl cw ?_ ?_ (fun _ _ => ?_) (fun _ => ?_)) | refine x_isIn x _ _ _ rfl cx ?_ ?_ (fun zx _ => ?_) (fun _ => ?_))
    | ((with_reducible refine (?_ : am_Does _ 142 _ _ _)); refine x_lowest _ ?_ (fun μr fr => ?_))
    | ((with_reducible refine (?_ : am_Does _ 183 _ _ _)); (have n2 : 2 ≤ ν 83 14 := (by (simp only [cn, l2] at *; first | done | omega)); refine n_uneven hm0 hw (fun μ1 h1 g1 => ?_)))
    | ((with_reducible refine (?_ : am_Does _ 169 _ _ _)); (refine n_races ?_; rw [g1 83 14 (by decide) (by decide) (by decide)]))
    | ((with_reducible refine (?_ : am_Does _ 185 _ _ _)); (rw [cu, cA]; refine n_partOf _ _ _ cw (u0 (by omega)) (by omega) (by omega) (by omega) ?_))
    | refine kk _ _ h1 ?_
    | refine kk _ _ (mi_84 hm fr) ?_
    | refine And.intro (fun h => absurd h (by omega)) (fun _ => ?_)
    | refine And.intro (fun _ => ?_) (fun h => absurd h (by omega))
    | ((with_reducible refine (?_ : am_AW _ _ _ _ _ 74 _ _ _)); refine lp74' _ _ _ ?_ ?_ ?_ ?_ ?_ ?_ ?_ ?_)
    | refine And.intro (fun h => absurd h (by decide)) (fun _ => ?_)
    | refine And.intro (fun _ => ?_) (fun h => absurd (by decide) h)
    | refine And.intro (fun _ => ?_) (fun _ => ?_)
    | refine And.intro ?_ ?_
  all_goals (first | omega | (with_reducible assumption) | rfl | (intros; rfl) | (intro p hp; exact mi_or hm0 p hp) | ((simp only [cx, l0, l1] at *; first | done | omega)) | (unfold fp_clr; rw [if_pos (by omega)]; rfl) | (unfold fp_clr; rw [if_neg (by omega), e4, if_pos (by (simp only [cn, l2] at *; first | done | omega))]; rfl) | (unfold fp_clr; rw [if_neg (by omega), e4, if_neg (by omega), if_neg (by (simp only [cx, l0, l1] at *; first | done | omega)), ea]) | (trace_state; fail))
