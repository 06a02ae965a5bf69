theorem n_ordered {l : Launch} {ν : am_N} {Q : Option am_V → am_N → Prop} (v w : Int) (cv : am_c v = v) (cw : am_c w = w) (hm : mi ν) (hw : fp_fw 999 (mv ν)) (k : ∀ μ' : am_N, gm ms ν μ' → Q (some (.inr (.inl (fp_odr (mv ν) v w)))) μ') : am_Does l 188 [.inr (.inr 83), .inl v, .inl w] ν Q := by
  refine am_Does_of (Nat.le_of_ble_eq_true rfl) (Nat.le_of_ble_eq_true rfl) (Nat.le_of_ble_eq_true rfl) ?_
  have l0 : am_c 0 = 0 := rfl
  have l1 : am_c 1 = 1 := rfl
  have l2 : am_c 2 = 2 := rfl
  have l3 : am_c 3 = 3 := rfl
  have l10 : am_c 10 = 10 := rfl
  have m1' : am_c (-1) = -1 := rfl
  have m2' : am_c (-2) = -2 := rfl
  have m3' : am_c (-3) = -3 := rfl
  have hm0 := hm
  obtain ⟨hf, -, -, -, -, -, hx⟩ := fw_M hw (by decide)
  have f0 := hf.1.1
  have f1 := hf.1.2
  have e4 : mv ν 0 4 = ν 83 14 := rfl
  have al := fp_al2_b f0 f1
  have eA := fp_al2_n f0 f1
  have hs : ∀ q : Nat, (q : Int) < ν 83 14 → 0 ≤ ν 88 q ∧ ν 88 q ≤ 20 := fun q hq => (hx q hq).2.2.2
  have ea : fp_al2 (mv ν) = am_shl 1 (2 * ν 83 14) := rfl
  have cA : am_c (am_shl 1 (2 * ν 83 14)) = am_shl 1 (2 * ν 83 14) := am_cR (by omega) (by omega)
  have p256 := (fp_p4 f0 f1).1
  have cn : am_c (ν 83 14) = ν 83 14 := am_cR (by omega) (by omega)
  have ob := fp_oA_b hw v
  have co : am_c (fp_oA (mv ν) v) = fp_oA (mv ν) v := am_cR (by omega) (by omega)
  have v1 : v ≤ 2147483647 := by rw [← cv]; unfold am_c; omega
  have kk := fun (x : Int) (μ' : am_N) (h : gm ms ν μ') (e : x = fp_odr (mv ν) v w) => am_qd (k μ' h) e
  have lp35 : ∀ (m : Nat) (s i : Int) (μ : am_N) , (∀ a b, a ≠ 99 → a ≠ 100 → μ a b = ν a b) → sx_3 μ 100 → 0 ≤ i → i ≤ am_shl 1 (2 * ν 83 14) → s = fp_su (fun k => fp_dA (fp_tp (mv ν) k) (ν 83 14) v) i.toNat → 0 ≤ v → fp_eo (ν 83 14).toNat v.toNat → (w = 0 ∨ w = 1) → am_shl 1 (2 * ν 83 14) - i < (m : Int) → am_AW l 0 (fun _ => 0) 188 Q 35 [some (.inr (.inr 83)), some (.inl v), some (.inl w), some (.inl s), some (.inl i)] [] μ := by
    intro m
    induction m with
    | zero =>
      intro s i μ hv0 hv1 hv2 hv3 hv4 hv5 hv6 hv7 hm
      exfalso
      omega
    | succ m ih =>
      intro s i μ hv0 hv1 hv2 hv3 hv4 hv5 hv6 hv7 hm
      have ci : am_c i = i := am_cR (by omega) (by omega)
      have n8 : μ 83 14 = ν 83 14 := hv0 83 14 (by decide) (by decide)
      obtain ⟨h1, h2⟩ := am_fM_e hv0
      have h3 := h1 hf
      have hE : gm ms ν μ := ⟨mi_rc hm0 (fun a b q => hv0 a b (by omega) (by omega)) hv1, fun a b ha => hv0 a b (fun z => by rw [z] at ha; cases ha) (fun z => by rw [z] at ha; cases ha)⟩
      refine am_go (ct := fun pc => Nat.beq pc 35) am_oX7_ordered 300 ?_
      conv => whnf
      repeat' first
        | (refine (?_ : am_wp _ _ _ _ _ _ _ _ _ _ _ _); conv => whnf)
        | (refine (?_ : am_sw _ _ _ _); conv => whnf)
        | refine And.intro trivial ?_
        | exact trivial
        | (refine n_races ?_; rw [n8])
        | (have iN : i < am_shl 1 (2 * ν 83 14) := (by rw [n8] at *; (simp only [ci, cA] at *; first | done | omega)); refine x_takesParts i h3 (fun q hq => by rw [hv0 88 q (by decide) (by decide)]; exact hs q (by rw [n8] at hq; exact hq)) hv2 (by omega) (fun μ2 y1 y2 y3 y4 => ?_); rw [n8] at y2 y3; have m8 : μ2 83 14 = ν 83 14 := (y1 83 14 (by decide) (by decide)).trans n8; have u2 : ∀ q : Nat, (q : Int) < ν 83 14 → fp_pt (am_TM μ q) (μ 88 q) (fp_dj i.toNat q) = fp_tp (mv ν) i.toNat q := (fun q hq => by rw [h2, hv0 88 q (by decide) (by decide), mv_T (by omega), ← show mv ν 4 q = ν 88 q from mv_a (a := 3) (by decide) (by omega)]; rfl); have f2 : ∀ a b, a ≠ 99 → a ≠ 100 → μ2 a b = ν a b := (fun a b q1 q2 => (y1 a b q1 q2).trans (hv0 a b q1 q2)))
        | (refine x_mdigits (by rw [m8]; exact f0) (by rw [m8]; exact f1) ?_; rw [m8])
        | (have iE : i.toNat = 4 ^ (ν 83 14).toNat := (by (simp only [ci, cA] at *; first | done | omega)); have sE : s = fp_oA (mv ν) v := (by rw [hv4, iE]; rfl); rw [sE, co, cA]; refine n_partOf _ _ _ cw ob.1 (by omega) (by omega) (by omega) ?_)
        | refine kk _ _ hE ?_
        | refine n_isOrder v cv v1 f0 f1 (fun y0 y1 => ?_) (fun y => ?_)
        | refine x_isIn w _ _ _ rfl cw ?_ ?_ (fun _ _ => ?_) (fun _ => ?_)
        | refine x_lowest _ ?_ (fun μr fr => ?_)
        | refine kk _ _ (mi_84 hm fr) ?_
        | refine And.intro (fun h => absurd h (by omega)) (fun _ => ?_)
        | refine And.intro (fun _ => ?_) (fun h => absurd h (by omega))
        | refine ih _ _ _ ?_ ?_ ?_ ?_ ?_ ?_ ?_ ?_ ?_
        | refine And.intro (fun h => absurd h (by decide)) (fun _ => ?_)
        | refine And.intro (fun _ => ?_) (fun h => absurd (by decide) h)
        | refine And.intro (fun _ => ?_) (fun _ => ?_)
        | refine And.intro ?_ ?_
      all_goals (first | omega | (with_reducible assumption) | (intro a b q1 q2; exact f2 a b q1 q2) | exact y4 hv1 | (have ed : am_dg (μ2 100) (ν 83 14).toNat 0 = am_dg (fun p => fp_od (fp_tp (mv ν) i.toNat) (ν 83 14) (p : Int)) (ν 83 14).toNat 0 := am_dg_eq _ _ (fun p hp => by rw [fp_od_o f1 y2 p (by omega)]; exact fp_od_i2 f1 (by omega) u2); have xx : am_c (am_dg (μ2 100) (ν 83 14).toNat 0) = am_dg (fun p => fp_od (fp_tp (mv ν) i.toNat) (ν 83 14) (p : Int)) (ν 83 14).toNat 0 := (by rw [ed]; exact am_dg_c f1 (fp_od (fp_tp (mv ν) i.toNat) (ν 83 14)) (fun p => fp_od_b _ _ _)); rw [show (i + 1).toNat = i.toNat + 1 by omega]; show _ = fp_su (fun k => fp_dA (fp_tp (mv ν) k) (ν 83 14) v) i.toNat + (if am_dg (fun p => fp_od (fp_tp (mv ν) i.toNat) (ν 83 14) (p : Int)) (ν 83 14).toNat 0 = v then 1 else 0); first | (rw [if_pos (by omega)]; omega) | (rw [if_neg (by omega)]; omega)) | (unfold fp_odr; rw [e4, if_neg (fun h => h ⟨hv5, (fp_eoI (by omega)).2 hv6⟩), if_neg (by omega), ea]) | decide | (trace_state; fail))
  have lp35' : ∀ (s i : Int) (μ : am_N) , (∀ a b, a ≠ 99 → a ≠ 100 → μ a b = ν a b) → sx_3 μ 100 → 0 ≤ i → i ≤ am_shl 1 (2 * ν 83 14) → s = fp_su (fun k => fp_dA (fp_tp (mv ν) k) (ν 83 14) v) i.toNat → 0 ≤ v → fp_eo (ν 83 14).toNat v.toNat → (w = 0 ∨ w = 1) → am_AW l 0 (fun _ => 0) 188 Q 35 [some (.inr (.inr 83)), some (.inl v), some (.inl w), some (.inl s), some (.inl i)] [] μ := fun s i μ hv0 hv1 hv2 hv3 hv4 hv5 hv6 hv7 => lp35 ((am_shl 1 (2 * ν 83 14) - i) + 1).toNat s i μ hv0 hv1 hv2 hv3 hv4 hv5 hv6 hv7 (by omega)
  refine am_go (ct := fun pc => Nat.beq pc 35) am_oX7_ordered 300 ?_
  conv => whnf
  repeat' first
    | (refine (?_ : am_wp _ _ _ _ _ _ _ _ _ _ _ _); conv => whnf)
    | (refine (?_ : am_sw _ _ _ _); conv => whnf)
    | refine And.intro trivial ?_
    | exact trivial
    | refine n_isOrder v cv v1 f0 f1 (fun y0 y1 => ?_) (fun y => ?_)
    | refine x_isIn w _ _ _ rfl cw ?_ ?_ (fun _ _ => ?_) (fun _ => ?_)
    | refine x_lowest _ ?_ (fun μr fr => ?_)
    | refine kk _ _ (mi_84 hm fr) ?_
    | refine And.intro (fun h => absurd h (by omega)) (fun _ => ?_)
    | refine And.intro (fun _ => ?_) (fun h => absurd h (by omega))
    | refine lp35' _ _ _ ?_ ?_ ?_ ?_ ?_ ?_ ?_ ?_
    | refine And.intro (fun h => absurd h (by decide)) (fun _ => ?_)
    | refine And.intro (fun _ => ?_) (fun h => absurd (by decide) h)
    | refine And.intro (fun _ => ?_) (fun _ => ?_)
    | refine And.intro ?_ ?_
  all_goals (first | omega | (with_reducible assumption) | rfl | (intros; rfl) | (intro p hp; exact mi_or hm0 p hp) | (unfold fp_odr; rw [e4, if_pos (fun h => y ⟨h.1, (fp_eoI (by omega)).1 h.2⟩)]; rfl) | (unfold fp_odr; rw [e4, if_neg (fun h => h ⟨y0, (fp_eoI (by omega)).2 y1⟩), if_pos (by omega)]; rfl) | (trace_state; fail))
