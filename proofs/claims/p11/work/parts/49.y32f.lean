theorem n_isOrder {l : Launch} {ν : am_N} {Q : Option am_V → am_N → Prop} (v : Int) (cv : am_c v = v) (v1 : v ≤ 2147483647) (f0 : 0 ≤ ν 83 14) (f1 : ν 83 14 ≤ 4) (k1 : 0 ≤ v → fp_eo (ν 83 14).toNat v.toNat → Q (some (.inl 1)) ν) (k0 : ¬(0 ≤ v ∧ fp_eo (ν 83 14).toNat v.toNat) → Q (some (.inl 0)) ν) : am_Does l 187 [.inr (.inr 83), .inl v] ν Q := by
  refine am_Does_of (Nat.le_of_ble_eq_true rfl) (Nat.le_of_ble_eq_true rfl) (Nat.le_of_ble_eq_true rfl) ?_
  have l0 : am_c 0 = 0 := rfl
  have l1 : am_c 1 = 1 := rfl
  have l2 : am_c 2 = 2 := rfl
  have l3 : am_c 3 = 3 := rfl
  have l10 : am_c 10 = 10 := rfl
  have cn : am_c (ν 83 14) = ν 83 14 := am_cR (by omega) (by omega)
  have lp7 : ∀ (m : Nat) (y s p : Int) (o5 : Option am_V) , 0 ≤ p → p ≤ ν 83 14 → (0 ≤ v → y = ((fp_qt v.toNat p.toNat : Nat) : Int) ∧ s = fp_oc v.toNat p.toNat ∧ (∀ q : Nat, q < p.toNat → fp_dt v.toNat q < (ν 83 14).toNat) ∧ ∀ a b : Nat, a < b → b < p.toNat → fp_dt v.toNat a ≠ fp_dt v.toNat b) → ν 83 14 - p < (m : Int) → am_AW l 0 (fun _ => 0) 187 Q 7 [some (.inr (.inr 83)), some (.inl v), some (.inl y), some (.inl s), some (.inl p), o5] [] ν := by
    intro m
    induction m with
    | zero =>
      intro y s p o5  hv0 hv1 hv2 hm
      exfalso
      omega
    | succ m ih =>
      intro y s p o5  hv0 hv1 hv2 hm
      have cp : am_c p = p := am_cR (by omega) (by omega)
      have yb := fp_qt_l v.toNat p.toNat
      have cy : 0 ≤ v → am_c y = y := fun z => by have h := (hv2 z).1; exact am_cR (by omega) (by omega)
      obtain ⟨dI, edI⟩ : ∃ dI : Int, dI = ((fp_dt v.toNat p.toNat : Nat) : Int) := ⟨_, rfl⟩
      have erem : 0 ≤ v → (am_c y).tmod (am_c 10) = dI := fun z => by have h := (hv2 z).1; rw [cy z, l10, Int.tmod_eq_emod_of_nonneg (by omega), h, edI, fp_qt_d]; omega
      have ediv : 0 ≤ v → (am_c y).tdiv (am_c 10) = ((fp_qt v.toNat (p.toNat + 1) : Nat) : Int) := fun z => by have h := (hv2 z).1; rw [cy z, l10, Int.tdiv_eq_ediv_of_nonneg (by omega), h, fp_qt_s]; omega
      have ts := fp_dt_t v.toNat p.toNat
      have cdt : am_c dI = dI := am_cR (by omega) (by omega)
      have bitF := fun (z : 0 ≤ v) (q : p.toNat < (ν 83 14).toNat) (d : fp_dt v.toNat p.toNat < (ν 83 14).toNat) => (show am_c (am_and (am_shr s ((am_c y).tmod (am_c 10))) 1) = 1 ↔ ∃ q : Nat, q < p.toNat ∧ fp_dt v.toNat q = fp_dt v.toNat p.toNat by
        have hh := hv2 z
        have ob := fp_oc_b (v := v.toNat) (n := (ν 83 14).toNat) (by omega) p.toNat hh.2.2.1
        have cb := fp_bitc (x := fp_oc v.toNat p.toNat) (d := ((fp_dt v.toNat p.toNat : Nat) : Int)) ob.1 ob.2 (by omega) (by omega)
        have bm := fp_bitM (v := v.toNat) (p := p.toNat) (d := fp_dt v.toNat p.toNat) (by omega) (fun q hq => by have w := hh.2.2.1 q hq; omega) (by omega)
        rw [erem z, edI, hh.2.1, cb]
        exact bm)
      refine am_go (ct := fun pc => Nat.beq pc 7) am_oX7_isOrder 300 ?_
      conv => whnf
      repeat' first
        | (refine (?_ : am_wp _ _ _ _ _ _ _ _ _ _ _ _); conv => whnf)
        | (refine (?_ : am_sw _ _ _ _); conv => whnf)
        | refine And.intro trivial ?_
        | exact trivial
        | (refine x_isRunnerT _ f0 f1 (fun y0 y1 => ?_) (fun yn => ?_))
        | (have v0 : 0 ≤ v := (by (simp only [cv, l0] at *; first | done | omega)); have hh := hv2 v0; have pE : p.toNat = (ν 83 14).toNat := (by (simp only [cp, cn] at *; first | done | omega)); (first | have cy := cy v0 | skip); refine k1 v0 (fun _ => ⟨?_, ?_, ?_⟩))
        | refine k0 (fun z => ?_)
        | refine ih _ _ _ _  ?_ ?_ ?_ ?_
        | refine And.intro (fun h => absurd h (by decide)) (fun _ => ?_)
        | refine And.intro (fun _ => ?_) (fun h => absurd (by decide) h)
        | refine And.intro (fun _ => ?_) (fun _ => ?_)
        | refine And.intro ?_ ?_
      all_goals (first | omega | (with_reducible assumption) | ((simp only [cp, cn] at *; first | done | omega)) | (rw [← pE]; have h1 := hh.1; (simp only [cy, l0] at *; first | done | omega)) | (intro q hq; exact hh.2.2.1 q (by omega)) | (intro a b h1 h2; exact hh.2.2.2 a b h1 (by omega)) | (exfalso; have zv := z.1; have er := erem zv; rw [er, cdt] at yn; have zd := (z.2 ()).2.1 p.toNat (by (simp only [cp, cn] at *; first | done | omega)); omega) | (have zv := z.1; have C := z.2 (); have pN : p.toNat < (ν 83 14).toNat := (by (simp only [cp, cn] at *; first | done | omega)); have hb : am_c (am_and (am_shr s ((am_c y).tmod (am_c 10))) 1) = am_c 1 := (by assumption); obtain ⟨q, q1, q2⟩ := (bitF zv pN (C.2.1 p.toNat pN)).1 hb; exact C.2.2 q p.toNat q1 pN q2) | (intro zv; have hh := hv2 zv; have pN : p.toNat < (ν 83 14).toNat := (by (simp only [cp, cn] at *; first | done | omega)); have dl : fp_dt v.toNat p.toNat < (ν 83 14).toNat := (by have a0 := y0; have a1 := y1; rw [erem zv, cdt] at a0 a1; omega); have bF := bitF zv pN dl; have nb : ¬ am_c (am_and (am_shr s ((am_c y).tmod (am_c 10))) 1) = am_c 1 := (by assumption); rw [show (p + 1).toNat = p.toNat + 1 by omega]; refine ⟨ediv zv, ?_, fun q hq => ?_, fun a b h1 h2 => ?_⟩; (rw [erem zv, edI, hh.2.1]; rfl); (by_cases d : q = p.toNat; (rw [d]; exact dl); (exact hh.2.2.1 q (by omega))); (by_cases d : b = p.toNat; (rw [d]; intro e; exact nb (bF.2 ⟨a, by omega, e⟩)); (exact hh.2.2.2 a b h1 (by omega)))) | (have zv := z.1; have hh := hv2 zv; (first | have cy := cy zv | skip); have pE : p.toNat = (ν 83 14).toNat := (by (simp only [cp, cn] at *; first | done | omega)); have z1 := (z.2 ()).1; rw [← pE] at z1; have h1 := hh.1; (simp only [cy, l0] at *; first | done | omega)) | (have zv := z.1; (simp only [cv, l0] at *; first | done | omega)) | decide | (trace_state; fail))
  have lp7' : ∀ (y s p : Int) (o5 : Option am_V) , 0 ≤ p → p ≤ ν 83 14 → (0 ≤ v → y = ((fp_qt v.toNat p.toNat : Nat) : Int) ∧ s = fp_oc v.toNat p.toNat ∧ (∀ q : Nat, q < p.toNat → fp_dt v.toNat q < (ν 83 14).toNat) ∧ ∀ a b : Nat, a < b → b < p.toNat → fp_dt v.toNat a ≠ fp_dt v.toNat b) → am_AW l 0 (fun _ => 0) 187 Q 7 [some (.inr (.inr 83)), some (.inl v), some (.inl y), some (.inl s), some (.inl p), o5] [] ν := fun y s p o5  hv0 hv1 hv2 => lp7 ((ν 83 14 - p) + 1).toNat y s p o5  hv0 hv1 hv2 (by omega)
  refine am_go (ct := fun pc => Nat.beq pc 7) am_oX7_isOrder 300 ?_
  conv => whnf
  repeat' first
    | (refine (?_ : am_wp _ _ _ _ _ _ _ _ _ _ _ _); conv => whnf)
    | (refine (?_ : am_sw _ _ _ _); conv => whnf)
    | refine And.intro trivial ?_
    | exact trivial
    | refine lp7' _ _ _ _  ?_ ?_ ?_
    | refine And.intro (fun h => absurd h (by decide)) (fun _ => ?_)
    | refine And.intro (fun _ => ?_) (fun h => absurd (by decide) h)
    | refine And.intro (fun _ => ?_) (fun _ => ?_)
    | refine And.intro ?_ ?_
  all_goals (first | omega | (with_reducible assumption) | rfl | (intro z; refine ⟨?_, rfl, fun q hq => absurd hq (by omega), fun a b h1 h2 => absurd h2 (by omega)⟩; rw [show (0 : Int).toNat = 0 from rfl, fp_qt_0]; omega) | (trace_state; fail))
