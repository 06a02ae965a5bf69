theorem n_isOrder {l : Launch} {ν : am_N} {Q : Option am_V → am_N → Prop} (v : Int) (cv : am_c v = v) (v1 : v ≤ 2147483647) (f0 : 0 ≤ ν 83 14) (f1 : ν 83 14 ≤ 4) (k1 : 0 ≤ v → fp_eo (ν 83 14).toNat v.toNat → Q (some (.inl 1)) ν) (k0 : ¬(0 ≤ v ∧ fp_eo (ν 83 14).toNat v.toNat) → Q (some (.inl 0)) ν) : am_Does l 187 [.inr (.inr 83), .inl v] ν Q := by
  refine am_Does_of (Nat.le_of_ble_eq_true rfl) (Nat.le_of_ble_eq_true rfl) (Nat.le_of_ble_eq_true rfl) ?_
  have l0 : am_c 0 = 0 := rfl
  have l1 : am_c 1 = 1 := rfl
  have l2 : am_c 2 = 2 := rfl
  have l3 : am_c 3 = 3 := rfl
  have l10 : am_c 10 = 10 := rfl
  have cn : am_c (ν 83 14) = ν 83 14 := am_cR (by omega) (by omega)
  have lp7 : ∀ (m : Nat) (y s p : Int) (o5 : Option am_V) , 0 ≤ p → p ≤ ν 83 14 → (0 ≤ v → y = ((fp_qt v.toNat p.toNat : Nat) : Int) ∧ s = fp_oc v.toNat p.toNat ∧ (∀ q : Nat, q < p.toNat → fp_dt v.toNat q < (ν 83 14).toNat) ∧ ∀ a b : Nat, a < b → b < p.toNat → fp_dt v.toNat a ≠ fp_dt v.toNat b) → ν 83 14 - p < (m : Int) → am_AW l 0 (fun _ => 0) 187 Q 7 [some (.inr (.inr 83)), some (.inl v), some (.inl y), some (.inl s), some (.inl p), o5] [] ν := by
    intro m
    induction m with
    | zero =>
      intro y s p o5  hv0 hv1 hv2 hm
      exfalso
      omega
    | succ m ih =>
      intro y s p o5  hv0 hv1 hv2 hm
      have cp : am_c p = p := am_cR (by omega) (by omega)
      have yb := fp_qt_l v.toNat p.toNat
      have cy : 0 ≤ v → am_c y = y := fun z => by have h := (hv2 z).1; exact am_cR (by omega) (by omega)
      have erem : 0 ≤ v → (am_c y).tmod (am_c 10) = ((fp_dt v.toNat p.toNat : Nat) : Int) := fun z => by have h := (hv2 z).1; rw [cy z, l10, Int.tmod_eq_emod_of_nonneg (by omega), h, fp_qt_d]; omega
      have ediv : 0 ≤ v → (am_c y).tdiv (am_c 10) = ((fp_qt v.toNat (p.toNat + 1) : Nat) : Int) := fun z => by have h := (hv2 z).1; rw [cy z, l10, Int.tdiv_eq_ediv_of_nonneg (by omega), h, fp_qt_s]; omega
      have ts := fp_dt_t v.toNat p.toNat
      have cdt : am_c (((fp_dt v.toNat p.toNat : Nat) : Int)) = ((fp_dt v.toNat p.toNat : Nat) : Int) := am_cR (by omega) (by omega)
      have bitF := fun (z : 0 ≤ v) (q : p.toNat < (ν 83 14).toNat) (d : fp_dt v.toNat p.toNat < (ν 83 14).toNat) => (show am_c (am_and (am_shr s ((am_c y).tmod (am_c 10))) 1) = 1 ↔ ∃ q : Nat, q < p.toNat ∧ fp_dt v.toNat q = fp_dt v.toNat p.toNat by
        have hh := hv2 z
        have ob := fp_oc_b (v := v.toNat) (n := (ν 83 14).toNat) (by omega) p.toNat hh.2.2.1
        have cb := fp_bitc (x := fp_oc v.toNat p.toNat) (d := ((fp_dt v.toNat p.toNat : Nat) : Int)) ob.1 ob.2 (by omega) (by omega)
        have bm := fp_bitM (v := v.toNat) (p := p.toNat) (d := fp_dt v.toNat p.toNat) (by omega) (fun q hq => by have w := hh.2.2.1 q hq; omega) (by omega)
        rw [erem z, hh.2.1, cb]
        exact bm)
      refine am_go (ct := fun pc => Nat.beq pc 7) am_oX7_isOrder 300 ?_
      conv => whnf
      repeat' first
        | (refine (?_ : am_wp _ _ _ _ _ _ _ _ _ _ _ _); conv => whnf)
        | (refine (?_ : am_sw _ _ _ _); conv => whnf)
        | refine And.intro trivial ?_
        | exact trivial
        | ((with_reducible refine (?_ : am_Does _ 146 _ _ _)); (refine x_isRunnerT _ f0 f1 (fun y0 y1 => ?_) (fun yn => ?_)))
        | (have v0 : 0 ≤ v := (by (simp only [cv, l0] at *; first | done | omega)); have hh := hv2 v0; have pE : p.toNat = (ν 83 14).toNat := (by (simp only [cp, cn] at *; first | done | omega)); (first | have cy := cy v0 | skip); refine k1 v0 (fun _ => ⟨?_, ?_, ?_⟩))
        | refine k0 (fun z => ?_)
        | ((with_reducible refine (?_ : am_AW _ _ _ _ _ 7 _ _ _)); refine ih _ _ _ _  ?_ ?_ ?_ ?_)
        | refine And.intro (fun h => absurd h (by decide)) (fun _ => ?_)
        | refine And.intro (fun _ => ?_) (fun h => absurd (by decide) h)
        | refine And.intro (fun _ => ?_) (fun _ => ?_)
        | refine And.intro ?_ ?_
      all_goals (first | omega | (with_reducible assumption) | ((simp only [cp, cn] at *; first | done | omega)) | (rw [← pE]; have h1 := hh.1; (simp only [cy, l0] at *; first | done | omega)) | (intro q hq; exact hh.2.2.1 q (by omega)) | (intro a b h1 h2; exact hh.2.2.2 a b h1 (by omega)) | (exfalso; have zv := z.1; have er := erem zv; rw [er, cdt] at yn; have zd := (z.2 ()).2.1 p.toNat (by (simp only [cp, cn] at *; first | done | omega)); omega) | (have zv := z.1; have C := z.2 (); have pN : p.toNat < (ν 83 14).toNat := (by (simp only [cp, cn] at *; first | done | omega)); have hb : am_c (am_and (am_shr s ((am_c y).tmod (am_c 10))) 1) = am_c 1 := (by assumption); obtain ⟨q, q1, q2⟩ := (bitF zv pN (C.2.1 p.toNat pN)).1 hb; exact C.2.2 q p.toNat q1 pN q2) | (intro zv; have hh := hv2 zv; have pN : p.toNat < (ν 83 14).toNat := (by (simp only [cp, cn] at *; first | done | omega)); have dl : fp_dt v.toNat p.toNat < (ν 83 14).toNat := (by have a0 := y0; have a1 := y1; rw [erem zv, cdt] at a0 a1; omega); have bF := bitF zv pN dl; have nb : ¬ am_c (am_and (am_shr s ((am_c y).tmod (am_c 10))) 1) = am_c 1 := (by assumption); rw [show (p + 1).toNat = p.toNat + 1 by omega]; refine ⟨ediv zv, ?_, fun q hq => ?_, fun a b h1 h2 => ?_⟩; (rw [erem zv, hh.2.1]; rfl); (by_cases d : q = p.toNat; (rw [d]; exact dl); (exact hh.2.2.1 q (by omega))); (by_cases d : b = p.toNat; (rw [d]; intro e; exact nb (bF.2 ⟨a, by omega, e⟩)); (exact hh.2.2.2 a b h1 (by omega)))) | (have zv := z.1; have hh := hv2 zv; (first | have cy := cy zv | skip); have pE : p.toNat = (ν 83 14).toNat := (by (simp only [cp, cn] at *; first | done | omega)); have z1 := (z.2 ()).1; rw [← pE] at z1; have h1 := hh.1; (simp only [cy, l0] at *; first | done | omega)) | (have zv := z.1; (simp only [cv, l0] at *; first | done | omega)) | decide | assumption | (trace_state; fail))
  have lp7' : ∀ (y s p : Int) (o5 : Option am_V) , 0 ≤ p → p ≤ ν 83 14 → (0 ≤ v → y = ((fp_qt v.toNat p.toNat : Nat) : Int) ∧ s = fp_oc v.toNat p.toNat ∧ (∀ q : Nat, q < p.toNat → fp_dt v.toNat q < (ν 83 14).toNat) ∧ ∀ a b : Nat, a < b → b < p.toNat → fp_dt v.toNat a ≠ fp_dt v.toNat b) → am_AW l 0 (fun _ => 0) 187 Q 7 [some (.inr (.inr 83)), some (.inl v), some (.inl y), some (.inl s), some (.inl p), o5] [] ν := fun y s p o5  hv0 hv1 hv2 => lp7 ((ν 83 14 - p) + 1).toNat y s p o5  hv0 hv1 hv2 (by omega)
  refine am_go (ct := fun pc => Nat.beq pc 7) am_oX7_isOrder 300 ?_
  conv => whnf
  repeat' first
    | (refine (?_ : am_wp _ _ _ _ _ _ _ _ _ _ _ _); conv => whnf)
    | (refine (?_ : am_sw _ _ _ _); conv => whnf)
    | refine And.intro trivial ?_
    | exact trivial
    | ((with_reducible refine (?_ : am_AW _ _ _ _ _ 7 _ _ _)); refine lp7' _ _ _ _  ?_ ?_ ?_)
    | refine And.intro (fun h => absurd h (by decide)) (fun _ => ?_)
    | refine And.intro (fun _ => ?_) (fun h => absurd (by decide) h)
    | refine And.intro (fun _ => ?_) (fun _ => ?_)
    | refine And.intro ?_ ?_
  all_goals (first | omega | (with_reducible assumption) | rfl | (intro z; refine ⟨?_, rfl, fun q hq => absurd hq (by omega), fun a b h1 h2 => absurd h2 (by omega)⟩; rw [show (0 : Int).toNat = 0 from rfl, fp_qt_0]; omega) | (trace_state; fail))
theorem n_ordered {l : Launch} {ν : am_N} {Q : Option am_V → am_N → Prop} (v w : Int) (cv : am_c v = v) (cw : am_c w = w) (hm : mi ν) (hw : fp_fw 999 (mv ν)) (k : ∀ μ' : am_N, gm ms ν μ' → Q (some (.inr (.inl (fp_odr (mv ν) v w)))) μ') : am_Does l 188 [.inr (.inr 83), .inl v, .inl w] ν Q := by
  refine am_Does_of (Nat.le_of_ble_eq_true rfl) (Nat.le_of_ble_eq_true rfl) (Nat.le_of_ble_eq_true rfl) ?_
  have l0 : am_c 0 = 0 := rfl
  have l1 : am_c 1 = 1 := rfl
  have l2 : am_c 2 = 2 := rfl
  have l3 : am_c 3 = 3 := rfl
  have l10 : am_c 10 = 10 := rfl
  have m1' : am_c (-1) = -1 := rfl
  have m2' : am_c (-2) = -2 := rfl
  have m3' : am_c (-3) = -3 := rfl
  have hm0 := hm
  obtain ⟨hf, -, -, -, -, -, hx⟩ := fw_M hw (by decide)
  have f0 := hf.1.1
  have f1 := hf.1.2
  have e4 : mv ν 0 4 = ν 83 14 := rfl
  have al := fp_al2_b f0 f1
  have eA := fp_al2_n f0 f1
  have hs : ∀ q : Nat, (q : Int) < ν 83 14 → 0 ≤ ν 88 q ∧ ν 88 q ≤ 20 := fun q hq => (hx q hq).2.2.2
  have ea : fp_al2 (mv ν) = am_shl 1 (2 * ν 83 14) := rfl
  have cA : am_c (am_shl 1 (2 * ν 83 14)) = am_shl 1 (2 * ν 83 14) := am_cR (by omega) (by omega)
  have p256 := (fp_p4 f0 f1).1
  have cn : am_c (ν 83 14) = ν 83 14 := am_cR (by omega) (by omega)
  have ob := fp_oA_b hw v
  have co : am_c (fp_oA (mv ν) v) = fp_oA (mv ν) v := am_cR (by omega) (by omega)
  have v1 : v ≤ 2147483647 := by rw [← cv]; unfold am_c; omega
  have kk := fun (x : Int) (μ' : am_N) (h : gm ms ν μ') (e : x = fp_odr (mv ν) v w) => am_qd (k μ' h) e
  have lp35 : ∀ (m : Nat) (s i : Int) (μ : am_N) , (∀ a b, a ≠ 99 → a ≠ 100 → μ a b = ν a b) → sx_3 μ 100 → 0 ≤ i → i ≤ am_shl 1 (2 * ν 83 14) → s = fp_su (fun k => fp_dA (fp_tp (mv ν) k) (ν 83 14) v) i.toNat → 0 ≤ v → fp_eo (ν 83 14).toNat v.toNat → (w = 0 ∨ w = 1) → am_shl 1 (2 * ν 83 14) - i < (m : Int) → am_AW l 0 (fun _ => 0) 188 Q 35 [some (.inr (.inr 83)), some (.inl v), some (.inl w), some (.inl s), some (.inl i)] [] μ := by
    intro m
    induction m with
    | zero =>
      intro s i μ hv0 hv1 hv2 hv3 hv4 hv5 hv6 hv7 hm
      exfalso
      omega
    | succ m ih =>
      intro s i μ hv0 hv1 hv2 hv3 hv4 hv5 hv6 hv7 hm
      have ci : am_c i = i := am_cR (by omega) (by omega)
      have n8 : μ 83 14 = ν 83 14 := hv0 83 14 (by decide) (by decide)
      obtain ⟨h1, h2⟩ := am_fM_e hv0
      have h3 := h1 hf
      have hE : gm ms ν μ := ⟨mi_rc hm0 (fun a b q => hv0 a b (by omega) (by omega)) hv1, fun a b ha => hv0 a b (fun z => by rw [z] at ha; cases ha) (fun z => by rw [z] at ha; cases ha)⟩
      refine am_go (ct := fun pc => Nat.beq pc 35) am_oX7_ordered 300 ?_
      conv => whnf
      repeat' first
        | (refine (?_ : am_wp _ _ _ _ _ _ _ _ _ _ _ _); conv => whnf)
        | (refine (?_ : am_sw _ _ _ _); conv => whnf)
        | refine And.intro trivial ?_
        | exact trivial
        | ((with_reducible refine (?_ : am_Does _ 169 _ _ _)); (refine n_races ?_; rw [n8]))
        | ((with_reducible refine (?_ : am_Does _ 168 _ _ _)); (have iN : i < am_shl 1 (2 * ν 83 14) := (by rw [n8] at *; (simp only [ci, cA] at *; first | done | omega)); refine x_takesParts i h3 (fun q hq => by rw [hv0 88 q (by decide) (by decide)]; exact hs q (by rw [n8] at hq; exact hq)) hv2 (by omega) (fun μ2 y1 y2 y3 y4 => ?_); rw [n8] at y2 y3; have m8 : μ2 83 14 = ν 83 14 := (y1 83 14 (by decide) (by decide)).trans n8; have u2 : ∀ q : Nat, (q : Int) < ν 83 14 → fp_pt (am_TM μ q) (μ 88 q) (fp_dj i.toNat q) = fp_tp (mv ν) i.toNat q := (fun q hq => by rw [h2, hv0 88 q (by decide) (by decide), mv_T (by omega), ← show mv ν 4 q = ν 88 q from mv_a (a := 3) (by decide) (by omega)]; rfl); have f2 : ∀ a b, a ≠ 99 → a ≠ 100 → μ2 a b = ν a b := (fun a b q1 q2 => (y1 a b q1 q2).trans (hv0 a b q1 q2))))
        | ((with_reducible refine (?_ : am_Does _ 178 _ _ _)); (refine x_mdigits (by rw [m8]; exact f0) (by rw [m8]; exact f1) ?_; rw [m8]))
        | ((with_reducible refine (?_ : am_Does _ 185 _ _ _)); (have iE : i.toNat = 4 ^ (ν 83 14).toNat := (by (simp only [ci, cA] at *; first | done | omega)); have sE : s = fp_oA (mv ν) v := (by rw [hv4, iE]; rfl); rw [sE, co, cA]; refine n_partOf _ _ _ cw ob.1 (by omega) (by omega) (by omega) ?_))
        | refine kk _ _ hE ?_
        | ((with_reducible refine (?_ : am_Does _ 187 _ _ _)); refine n_isOrder v cv v1 f0 f1 (fun y0 y1 => ?_) (fun y => ?_))
        | ((with_reducible refine (?_ : am_Does _ 143 _ _ _)); refine x_isIn w _ _ _ rfl cw ?_ ?_ (fun _ _ => ?_) (fun _ => ?_))
        | ((with_reducible refine (?_ : am_Does _ 142 _ _ _)); refine x_lowest _ ?_ (fun μr fr => ?_))
        | refine kk _ _ (mi_84 hm fr) ?_
        | refine And.intro (fun h => absurd h (by omega)) (fun _ => ?_)
        | refine And.intro (fun _ => ?_) (fun h => absurd h (by omega))
        | ((with_reducible refine (?_ : am_AW _ _ _ _ _ 35 _ _ _)); refine ih _ _ _ ?_ ?_ ?_ ?_ ?_ ?_ ?_ ?_ ?_)
        | refine And.intro (fun h => absurd h (by decide)) (fun _ => ?_)
        | refine And.intro (fun _ => ?_) (fun h => absurd (by decide) h)
        | refine And.intro (fun _ => ?_) (fun _ => ?_)
        | refine And.intro ?_ ?_
      all_goals (first | omega | (with_reducible assumption) | (intro a b q1 q2; exact f2 a b q1 q2) | exact y4 hv1 | (have ed : am_dg (μ2 100) (ν 83 14).toNat 0 = am_dg (fun p => fp_od (fp_tp (mv ν) i.toNat) (ν 83 14) (p : Int)) (ν 83 14).toNat 0 := am_dg_eq _ _ (fun p hp => by rw [fp_od_o f1 y2 p (by omega)]; exact fp_od_i2 f1 (by omega) u2); have xx : am_c (am_dg (μ2 100) (ν 83 14).toNat 0) = am_dg (fun p => fp_od (fp_tp (mv ν) i.toNat) (ν 83 14) (p : Int)) (ν 83 14).toNat 0 := (by rw [ed]; exact am_dg_c f1 (fp_od (fp_tp (mv ν) i.toNat) (ν 83 14)) (fun p => fp_od_b _ _ _)); rw [show (i + 1).toNat = i.toNat + 1 by omega]; show _ = fp_su (fun k => fp_dA (fp_tp (mv ν) k) (ν 83 14) v) i.toNat + (if am_dg (fun p => fp_od (fp_tp (mv ν) i.toNat) (ν 83 14) (p : Int)) (ν 83 14).toNat 0 = v then 1 else 0); first | (rw [if_pos (by omega)]; omega) | (rw [if_neg (by omega)]; omega)) | (unfold fp_odr; rw [e4, if_neg (fun h => h ⟨hv5, (fp_eoI (by omega)).2 hv6⟩), if_neg (by omega), ea]) | decide | assumption | (trace_state; fail))
  have lp35' : ∀ (s i : Int) (μ : am_N) , (∀ a b, a ≠ 99 → a ≠ 100 → μ a b = ν a b) → sx_3 μ 100 → 0 ≤ i → i ≤ am_shl 1 (2 * ν 83 14) → s = fp_su (fun k => fp_dA (fp_tp (mv ν) k) (ν 83 14) v) i.toNat → 0 ≤ v → fp_eo (ν 83 14).toNat v.toNat → (w = 0 ∨ w = 1) → am_AW l 0 (fun _ => 0) 188 Q 35 [some (.inr (.inr 83)), some (.inl v), some (.inl w), some (.inl s), some (.inl i)] [] μ := fun s i μ hv0 hv1 hv2 hv3 hv4 hv5 hv6 hv7 => lp35 ((am_shl 1 (2 * ν 83 14) - i) + 1).toNat s i μ hv0 hv1 hv2 hv3 hv4 hv5 hv6 hv7 (by omega)
  refine am_go (ct := fun pc => Nat.beq pc 35) am_oX7_ordered 300 ?_
  conv => whnf
  repeat' first
    | (refine (?_ : am_wp _ _ _ _ _ _ _ _ _ _ _ _); conv => whnf)
    | (refine (?_ : am_sw _ _ _ _); conv => whnf)
    | refine And.intro trivial ?_
    | exact trivial
    | ((with_reducible refine (?_ : am_Does _ 187 _ _ _)); refine n_isOrder v cv v1 f0 f1 (fun y0 y1 => ?_) (fun y => ?_))
    | ((with_reducible refine (?_ : am_Does _ 143 _ _ _)); refine x_isIn w _ _ _ rfl cw ?_ ?_ (fun _ _ => ?_) (fun _ => ?_))
    | ((with_reducible refine (?_ : am_Does _ 142 _ _ _)); refine x_lowest _ ?_ (fun μr fr => ?_))
    | refine kk _ _ (mi_84 hm fr) ?_
    | refine And.intro (fun h => absurd h (by omega)) (fun _ => ?_)
    | refine And.intro (fun _ => ?_) (fun h => absurd h (by omega))
    | ((with_reducible refine (?_ : am_AW _ _ _ _ _ 35 _ _ _)); refine lp35' _ _ _ ?_ ?_ ?_ ?_ ?_ ?_ ?_ ?_)
    | refine And.intro (fun h => absurd h (by decide)) (fun _ => ?_)
    | refine And.intro (fun _ => ?_) (fun h => absurd (by decide) h)
    | refine And.intro (fun _ => ?_) (fun _ => ?_)
    | refine And.intro ?_ ?_
  all_goals (first | omega | (with_reducible assumption) | rfl | (intros; rfl) | (intro p hp; exact mi_or hm0 p hp) | (unfold fp_odr; rw [e4, if_pos (fun h => y ⟨h.1, (fp_eoI (by omega)).1 h.2⟩)]; rfl) | (unfold fp_odr; rw [e4, if_neg (fun h => h ⟨y0, (fp_eoI (by omega)).2 y1⟩), if_pos (by omega)]; rfl) | (trace_state; fail))
