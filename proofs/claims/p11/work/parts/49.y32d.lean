theorem s_eachOnce {l : Launch} {ν : am_N} {Q : Option am_V → am_N → Prop} (v : Int) (cv : am_c v = v) (v1 : v ≤ 2147483647) (f0 : 0 ≤ ν 1 4) (f1 : ν 1 4 ≤ 4) (k1 : 0 ≤ v → fp_eoB (ν 1 4).toNat v.toNat → Q (some (.inl 1)) ν) (k0 : ¬(0 ≤ v ∧ fp_eoB (ν 1 4).toNat v.toNat) → Q (some (.inl 0)) ν) : am_Does l 15 [.inr (.inr 1), .inl v] ν Q := by
  refine am_Does_of (Nat.le_of_ble_eq_true rfl) (Nat.le_of_ble_eq_true rfl) (Nat.le_of_ble_eq_true rfl) ?_
  have l0 : am_c 0 = 0 := rfl
  have l1 : am_c 1 = 1 := rfl
  have l2 : am_c 2 = 2 := rfl
  have l3 : am_c 3 = 3 := rfl
  have l10 : am_c 10 = 10 := rfl
  have cn : am_c (ν 1 4) = ν 1 4 := am_cR (by omega) (by omega)
  have s1 := fp_s1_b f0 f1
  have en : (((ν 1 4).toNat : Nat) : Int) = ν 1 4 := Int.toNat_of_nonneg f0
  have lp13 : ∀ (m : Nat) (y s p : Int) , 0 ≤ p → p ≤ ν 1 4 → y = ((fp_qt v.toNat p.toNat : Nat) : Int) → s = fp_oc v.toNat p.toNat → 0 ≤ v → ν 1 4 - p < (m : Int) → am_AW l 0 (fun _ => 0) 15 Q 13 [some (.inr (.inr 1)), some (.inl v), some (.inl y), some (.inl s), some (.inl p)] [] ν := by
    intro m
    induction m with
    | zero =>
      intro y s p  hv0 hv1 hv2 hv3 hv4 hm
      exfalso
      omega
    | succ m ih =>
      intro y s p  hv0 hv1 hv2 hv3 hv4 hm
      have cp : am_c p = p := am_cR (by omega) (by omega)
      have yb := fp_qt_l v.toNat p.toNat
      have cy : am_c y = y := am_cR (by omega) (by omega)
      have erem : (am_c y).tmod (am_c 10) = ((fp_dt v.toNat p.toNat : Nat) : Int) := by rw [cy, l10, Int.tmod_eq_emod_of_nonneg (by omega), hv2, fp_qt_d]; omega
      have ediv : (am_c y).tdiv (am_c 10) = ((fp_qt v.toNat (p.toNat + 1) : Nat) : Int) := by rw [cy, l10, Int.tdiv_eq_ediv_of_nonneg (by omega), hv2, fp_qt_s]; omega
      have pE := fun q : ¬ p < ν 1 4 => (show p.toNat = (ν 1 4).toNat by omega)
      refine am_go (ct := fun pc => Nat.beq pc 13) am_oX0_eachOnce 300 ?_
      conv => whnf
      repeat' first
        | (refine (?_ : am_wp _ _ _ _ _ _ _ _ _ _ _ _); conv => whnf)
        | (refine (?_ : am_sw _ _ _ _); conv => whnf)
        | refine And.intro trivial ?_
        | exact trivial
        | refine k1 hv4 ?_
        | refine k0 (fun z => ?_)
        | refine k0 (fun z => ?_)
        | ((with_reducible refine (?_ : am_AW _ _ _ _ _ 13 _ _ _)); refine ih _ _ _  ?_ ?_ ?_ ?_ ?_ ?_)
        | refine And.intro (fun h => absurd h (by decide)) (fun _ => ?_)
        | refine And.intro (fun _ => ?_) (fun h => absurd (by decide) h)
        | refine And.intro (fun _ => ?_) (fun _ => ?_)
        | refine And.intro ?_ ?_
      all_goals (first | omega | (with_reducible assumption) | ((simp only [cp, cn] at *; first | done | omega)) | (rw [show (p + 1).toNat = p.toNat + 1 by omega]; exact ediv) | (rw [show (p + 1).toNat = p.toNat + 1 by omega, erem, hv3]; rfl) | (have pn := pE (by (simp only [cp, cn] at *; first | done | omega)); refine fp_eoB_i.2 ⟨?_, ?_⟩; (rw [← pn]; omega); (rw [← pn, ← hv3, pn, en]; omega)) | (have pn := pE (by (simp only [cp, cn] at *; first | done | omega)); have z3 := fp_eoB_i.1 z.2; have z1 := z3.1; have z2 := z3.2; rw [← pn] at z1; rw [← pn, ← hv3, pn, en] at z2; omega) | decide | assumption | (trace_state; fail))
  have lp13' : ∀ (y s p : Int) , 0 ≤ p → p ≤ ν 1 4 → y = ((fp_qt v.toNat p.toNat : Nat) : Int) → s = fp_oc v.toNat p.toNat → 0 ≤ v → am_AW l 0 (fun _ => 0) 15 Q 13 [some (.inr (.inr 1)), some (.inl v), some (.inl y), some (.inl s), some (.inl p)] [] ν := fun y s p  hv0 hv1 hv2 hv3 hv4 => lp13 ((ν 1 4 - p) + 1).toNat y s p  hv0 hv1 hv2 hv3 hv4 (by omega)
  refine am_go (ct := fun pc => Nat.beq pc 13) am_oX0_eachOnce 300 ?_
  conv => whnf
  repeat' first
    | (refine (?_ : am_wp _ _ _ _ _ _ _ _ _ _ _ _); conv => whnf)
    | (refine (?_ : am_sw _ _ _ _); conv => whnf)
    | refine And.intro trivial ?_
    | exact trivial
    | refine k0 (fun z => ?_)
    | ((with_reducible refine (?_ : am_AW _ _ _ _ _ 13 _ _ _)); refine lp13' _ _ _  ?_ ?_ ?_ ?_ ?_)
    | refine And.intro (fun h => absurd h (by decide)) (fun _ => ?_)
    | refine And.intro (fun _ => ?_) (fun h => absurd (by decide) h)
    | refine And.intro (fun _ => ?_) (fun _ => ?_)
    | refine And.intro ?_ ?_
  all_goals (first | omega | (with_reducible assumption) | rfl | ((simp only [cv, l0] at *; first | done | omega)) | (rw [show (0 : Int).toNat = 0 from rfl, fp_qt_0]; (simp only [cv, l0] at *; first | done | omega)) | (trace_state; fail))
