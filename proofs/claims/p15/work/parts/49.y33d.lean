theorem s_evr0 {l : Launch} {ν : am_N} {Q : Option am_V → am_N → Prop} (st : Int) (m : Nat) (mI : Int) (em : mI = (m : Int)) (x : Int) (o5 : Option am_V) (hw : fp_fw 999 (fv ν 1)) (m2 : 2 ≤ m) (m20 : m ≤ 20) (s0 : 0 ≤ st) (st1 : st ≤ 50) (s1 : ((m : Int) - 1) * st ≤ 99) (hB : 0 < ν 1 4) (k5 : ∀ (o5 : Option am_V) (μ' : am_N), (∀ a b, a ≠ 80 → μ' a b = ν a b) → (∀ k : Nat, k < m → μ' 80 k = fp_tt (fv ν 1) 0 ((k : Int) * st)) → am_AW l 0 (fun _ => 0) 123 Q 5 [some (.inr (.inr 0)), some (.inl st), some (.inl mI), some (.inl (x * mI)), some (.inl (0 + 1)), o5, none, none] [] μ') : am_AW l 0 (fun _ => 0) 123 Q 5 [some (.inr (.inr 0)), some (.inl st), some (.inl mI), some (.inl x), some (.inl 0), o5, none, none] [] ν := by
  have l0 : am_c 0 = 0 := rfl
  have l1 : am_c 1 = 1 := rfl
  have l2 : am_c 2 = 2 := rfl
  have l3 : am_c 3 = 3 := rfl
  have l5 : am_c 5 = 5 := rfl
  have l20 : am_c 20 = 20 := rfl
  have l50 : am_c 50 = 50 := rfl
  have l99 : am_c 99 = 99 := rfl
  have n14 := (fw_C hw (by decide)).1.1
  have cn : am_c (ν 1 4) = ν 1 4 := am_cR (by omega) (by omega)
  have cm : am_c mI = mI := am_cR (by omega) (by omega)
  have lp34 : ∀ (fz : Nat) (h : Int) (μ : am_N) , (∀ a b, a ≠ 80 → μ a b = ν a b) → 0 ≤ h → h ≤ (m : Int) → (∀ k : Nat, (k : Int) < h → μ 80 k = fp_tt (fv ν 1) 0 ((k : Int) * st)) → (m : Int) - h < (fz : Int) → am_AW l 0 (fun _ => 0) 123 Q 34 [some (.inr (.inr 0)), some (.inl st), some (.inl mI), some (.inl (x * mI)), some (.inl 0), some (.inl h), none, none] [] μ := by
    intro fz
    induction fz with
    | zero =>
      intro h μ hv0 hv1 hv2 hv3 hm
      exfalso
      omega
    | succ fz ih =>
      intro h μ hv0 hv1 hv2 hv3 hm
      have ch : am_c h = h := am_cR (by omega) (by omega)
      have eh : (am_c h).toNat = h.toNat := by rw [ch]
      have eF : fv μ 1 = (fv ν 1) := fv_keep (fun a b q1 q2 => hv0 a b (by omega))
      have e14 : μ 1 4 = ν 1 4 := hv0 1 4 (by decide)
      have hst := fun z : h < (m : Int) => am_mulb (a := h) (A := (m : Int) - 1) (b := st) (B := st) hv1 (by omega) s0 (Int.le_refl _)
      refine am_go (ct := fun pc => Nat.beq pc 34 || Nat.beq pc 5) am_oX6_evenest 300 ?_
      conv => whnf
      repeat' first
        | (refine (?_ : am_wp _ _ _ _ _ _ _ _ _ _ _ _); conv => whnf)
        | (refine (?_ : am_sw _ _ _ _); conv => whnf)
        | refine And.intro trivial ?_
        | exact trivial
        | ((with_reducible refine (?_ : ∀ j : Nat, (_ : Option Nat) = some j → _)); refine am_aa1 (a := 80) rfl ?_)
        | (have hm' : h < (m : Int) := (by (simp only [ch, cm] at *; first | done | omega)); (first | have hst := hst hm' | skip); refine s_tenthsFrom 0 (h * st) (by rw [eF]; exact hw) (by decide) (by rw [e14]; exact hB) hst.1 (by omega) (fun v ev v0 v1 => ?_); rw [eF] at ev)
        | (refine k5 _ _ hv0 (fun k hk => hv3 k (by (simp only [ch, cm] at *; first | done | omega))))
        | ((with_reducible refine (?_ : ∀ j : Nat, (_ : Option Nat) = some j → _)); refine am_aa1 (a := 80) rfl ?_)
        | refine ih _ _ ?_ ?_ ?_ ?_ ?_
        | refine And.intro (fun h => absurd h (by decide)) (fun _ => ?_)
        | refine And.intro (fun _ => ?_) (fun h => absurd (by decide) h)
        | refine And.intro (fun _ => ?_) (fun _ => ?_)
        | refine And.intro ?_ ?_
      all_goals (first | decide | assumption | omega | (rw [ch]; (simp only [ch, cm] at *; first | done | omega)) | (intro a b q; rw [am_upN q]; exact hv0 a b q) | (intro k hk; by_cases d : (k : Int) = h; (rw [am_upS, if_pos ⟨rfl, by rw [eh]; omega⟩, ev, d]; rfl); (rw [am_upM (by rw [eh]; omega)]; exact hv3 k (by omega))) | (exfalso; have z : (20 : Int) ≤ am_c h := (by assumption); rw [ch] at z; simp only [ch, cm] at *; omega) | (trace_state; fail))
  have lp34' : ∀ (h : Int) (μ : am_N) , (∀ a b, a ≠ 80 → μ a b = ν a b) → 0 ≤ h → h ≤ (m : Int) → (∀ k : Nat, (k : Int) < h → μ 80 k = fp_tt (fv ν 1) 0 ((k : Int) * st)) → am_AW l 0 (fun _ => 0) 123 Q 34 [some (.inr (.inr 0)), some (.inl st), some (.inl mI), some (.inl (x * mI)), some (.inl 0), some (.inl h), none, none] [] μ := fun h μ hv0 hv1 hv2 hv3 => lp34 (((m : Int) - h) + 1).toNat h μ hv0 hv1 hv2 hv3 (by omega)
  refine am_go (ct := fun pc => Nat.beq pc 34 || Nat.beq pc 5) am_oX6_evenest 300 ?_
  conv => whnf
  repeat' first
    | (refine (?_ : am_wp _ _ _ _ _ _ _ _ _ _ _ _); conv => whnf)
    | (refine (?_ : am_sw _ _ _ _); conv => whnf)
    | refine And.intro trivial ?_
    | exact trivial
    | ((with_reducible refine (?_ : ∀ j : Nat, (_ : Option Nat) = some j → _)); refine am_aa1 (a := 80) rfl ?_)
    | refine lp34' _ _ ?_ ?_ ?_ ?_
    | refine And.intro (fun h => absurd h (by decide)) (fun _ => ?_)
    | refine And.intro (fun _ => ?_) (fun h => absurd (by decide) h)
    | refine And.intro (fun _ => ?_) (fun _ => ?_)
    | refine And.intro ?_ ?_
  all_goals (first | decide | assumption | omega | ((simp only [cn] at *; first | done | omega)) | (exfalso; (simp only [cn] at *; first | done | omega)) | (intros; rfl) | (intro k hk; exact absurd hk (by omega)) | (trace_state; fail))
theorem s_evr1 {l : Launch} {ν : am_N} {Q : Option am_V → am_N → Prop} (st : Int) (m : Nat) (mI : Int) (em : mI = (m : Int)) (x : Int) (o5 : Option am_V) (hw : fp_fw 999 (fv ν 1)) (m2 : 2 ≤ m) (m20 : m ≤ 20) (s0 : 0 ≤ st) (st1 : st ≤ 50) (s1 : ((m : Int) - 1) * st ≤ 99) (hB : 1 < ν 1 4) (k5 : ∀ (o5 : Option am_V) (μ' : am_N), (∀ a b, a ≠ 81 → μ' a b = ν a b) → (∀ k : Nat, k < m → μ' 81 k = fp_tt (fv ν 1) 1 ((k : Int) * st)) → am_AW l 0 (fun _ => 0) 123 Q 5 [some (.inr (.inr 0)), some (.inl st), some (.inl mI), some (.inl (x * mI)), some (.inl (1 + 1)), o5, none, none] [] μ') : am_AW l 0 (fun _ => 0) 123 Q 5 [some (.inr (.inr 0)), some (.inl st), some (.inl mI), some (.inl x), some (.inl 1), o5, none, none] [] ν := by
  have l0 : am_c 0 = 0 := rfl
  have l1 : am_c 1 = 1 := rfl
  have l2 : am_c 2 = 2 := rfl
  have l3 : am_c 3 = 3 := rfl
  have l5 : am_c 5 = 5 := rfl
  have l20 : am_c 20 = 20 := rfl
  have l50 : am_c 50 = 50 := rfl
  have l99 : am_c 99 = 99 := rfl
  have n14 := (fw_C hw (by decide)).1.1
  have cn : am_c (ν 1 4) = ν 1 4 := am_cR (by omega) (by omega)
  have cm : am_c mI = mI := am_cR (by omega) (by omega)
  have lp34 : ∀ (fz : Nat) (h : Int) (μ : am_N) , (∀ a b, a ≠ 81 → μ a b = ν a b) → 0 ≤ h → h ≤ (m : Int) → (∀ k : Nat, (k : Int) < h → μ 81 k = fp_tt (fv ν 1) 1 ((k : Int) * st)) → (m : Int) - h < (fz : Int) → am_AW l 0 (fun _ => 0) 123 Q 34 [some (.inr (.inr 0)), some (.inl st), some (.inl mI), some (.inl (x * mI)), some (.inl 1), some (.inl h), none, none] [] μ := by
    intro fz
    induction fz with
    | zero =>
      intro h μ hv0 hv1 hv2 hv3 hm
      exfalso
      omega
    | succ fz ih =>
      intro h μ hv0 hv1 hv2 hv3 hm
      have ch : am_c h = h := am_cR (by omega) (by omega)
      have eh : (am_c h).toNat = h.toNat := by rw [ch]
      have eF : fv μ 1 = (fv ν 1) := fv_keep (fun a b q1 q2 => hv0 a b (by omega))
      have e14 : μ 1 4 = ν 1 4 := hv0 1 4 (by decide)
      have hst := fun z : h < (m : Int) => am_mulb (a := h) (A := (m : Int) - 1) (b := st) (B := st) hv1 (by omega) s0 (Int.le_refl _)
      refine am_go (ct := fun pc => Nat.beq pc 34 || Nat.beq pc 5) am_oX6_evenest 300 ?_
      conv => whnf
      repeat' first
        | (refine (?_ : am_wp _ _ _ _ _ _ _ _ _ _ _ _); conv => whnf)
        | (refine (?_ : am_sw _ _ _ _); conv => whnf)
        | refine And.intro trivial ?_
        | exact trivial
        | ((with_reducible refine (?_ : ∀ j : Nat, (_ : Option Nat) = some j → _)); refine am_aa1 (a := 81) rfl ?_)
        | (have hm' : h < (m : Int) := (by (simp only [ch, cm] at *; first | done | omega)); (first | have hst := hst hm' | skip); refine s_tenthsFrom 1 (h * st) (by rw [eF]; exact hw) (by decide) (by rw [e14]; exact hB) hst.1 (by omega) (fun v ev v0 v1 => ?_); rw [eF] at ev)
        | (refine k5 _ _ hv0 (fun k hk => hv3 k (by (simp only [ch, cm] at *; first | done | omega))))
        | ((with_reducible refine (?_ : ∀ j : Nat, (_ : Option Nat) = some j → _)); refine am_aa1 (a := 81) rfl ?_)
        | refine ih _ _ ?_ ?_ ?_ ?_ ?_
        | refine And.intro (fun h => absurd h (by decide)) (fun _ => ?_)
        | refine And.intro (fun _ => ?_) (fun h => absurd (by decide) h)
        | refine And.intro (fun _ => ?_) (fun _ => ?_)
        | refine And.intro ?_ ?_
      all_goals (first | decide | assumption | omega | (rw [ch]; (simp only [ch, cm] at *; first | done | omega)) | (intro a b q; rw [am_upN q]; exact hv0 a b q) | (intro k hk; by_cases d : (k : Int) = h; (rw [am_upS, if_pos ⟨rfl, by rw [eh]; omega⟩, ev, d]; rfl); (rw [am_upM (by rw [eh]; omega)]; exact hv3 k (by omega))) | (exfalso; have z : (20 : Int) ≤ am_c h := (by assumption); rw [ch] at z; simp only [ch, cm] at *; omega) | (trace_state; fail))
  have lp34' : ∀ (h : Int) (μ : am_N) , (∀ a b, a ≠ 81 → μ a b = ν a b) → 0 ≤ h → h ≤ (m : Int) → (∀ k : Nat, (k : Int) < h → μ 81 k = fp_tt (fv ν 1) 1 ((k : Int) * st)) → am_AW l 0 (fun _ => 0) 123 Q 34 [some (.inr (.inr 0)), some (.inl st), some (.inl mI), some (.inl (x * mI)), some (.inl 1), some (.inl h), none, none] [] μ := fun h μ hv0 hv1 hv2 hv3 => lp34 (((m : Int) - h) + 1).toNat h μ hv0 hv1 hv2 hv3 (by omega)
  refine am_go (ct := fun pc => Nat.beq pc 34 || Nat.beq pc 5) am_oX6_evenest 300 ?_
  conv => whnf
  repeat' first
    | (refine (?_ : am_wp _ _ _ _ _ _ _ _ _ _ _ _); conv => whnf)
    | (refine (?_ : am_sw _ _ _ _); conv => whnf)
    | refine And.intro trivial ?_
    | exact trivial
    | ((with_reducible refine (?_ : ∀ j : Nat, (_ : Option Nat) = some j → _)); refine am_aa1 (a := 81) rfl ?_)
    | refine lp34' _ _ ?_ ?_ ?_ ?_
    | refine And.intro (fun h => absurd h (by decide)) (fun _ => ?_)
    | refine And.intro (fun _ => ?_) (fun h => absurd (by decide) h)
    | refine And.intro (fun _ => ?_) (fun _ => ?_)
    | refine And.intro ?_ ?_
  all_goals (first | decide | assumption | omega | ((simp only [cn] at *; first | done | omega)) | (exfalso; (simp only [cn] at *; first | done | omega)) | (intros; rfl) | (intro k hk; exact absurd hk (by omega)) | (trace_state; fail))
theorem s_evr2 {l : Launch} {ν : am_N} {Q : Option am_V → am_N → Prop} (st : Int) (m : Nat) (mI : Int) (em : mI = (m : Int)) (x : Int) (o5 : Option am_V) (hw : fp_fw 999 (fv ν 1)) (m2 : 2 ≤ m) (m20 : m ≤ 20) (s0 : 0 ≤ st) (st1 : st ≤ 50) (s1 : ((m : Int) - 1) * st ≤ 99) (hB : 2 < ν 1 4) (k5 : ∀ (o5 : Option am_V) (μ' : am_N), (∀ a b, a ≠ 82 → μ' a b = ν a b) → (∀ k : Nat, k < m → μ' 82 k = fp_tt (fv ν 1) 2 ((k : Int) * st)) → am_AW l 0 (fun _ => 0) 123 Q 5 [some (.inr (.inr 0)), some (.inl st), some (.inl mI), some (.inl (x * mI)), some (.inl (2 + 1)), o5, none, none] [] μ') : am_AW l 0 (fun _ => 0) 123 Q 5 [some (.inr (.inr 0)), some (.inl st), some (.inl mI), some (.inl x), some (.inl 2), o5, none, none] [] ν := by
  have l0 : am_c 0 = 0 := rfl
  have l1 : am_c 1 = 1 := rfl
  have l2 : am_c 2 = 2 := rfl
  have l3 : am_c 3 = 3 := rfl
  have l5 : am_c 5 = 5 := rfl
  have l20 : am_c 20 = 20 := rfl
  have l50 : am_c 50 = 50 := rfl
  have l99 : am_c 99 = 99 := rfl
  have n14 := (fw_C hw (by decide)).1.1
  have cn : am_c (ν 1 4) = ν 1 4 := am_cR (by omega) (by omega)
  have cm : am_c mI = mI := am_cR (by omega) (by omega)
  have lp34 : ∀ (fz : Nat) (h : Int) (μ : am_N) , (∀ a b, a ≠ 82 → μ a b = ν a b) → 0 ≤ h → h ≤ (m : Int) → (∀ k : Nat, (k : Int) < h → μ 82 k = fp_tt (fv ν 1) 2 ((k : Int) * st)) → (m : Int) - h < (fz : Int) → am_AW l 0 (fun _ => 0) 123 Q 34 [some (.inr (.inr 0)), some (.inl st), some (.inl mI), some (.inl (x * mI)), some (.inl 2), some (.inl h), none, none] [] μ := by
    intro fz
    induction fz with
    | zero =>
      intro h μ hv0 hv1 hv2 hv3 hm
      exfalso
      omega
    | succ fz ih =>
      intro h μ hv0 hv1 hv2 hv3 hm
      have ch : am_c h = h := am_cR (by omega) (by omega)
      have eh : (am_c h).toNat = h.toNat := by rw [ch]
      have eF : fv μ 1 = (fv ν 1) := fv_keep (fun a b q1 q2 => hv0 a b (by omega))
      have e14 : μ 1 4 = ν 1 4 := hv0 1 4 (by decide)
      have hst := fun z : h < (m : Int) => am_mulb (a := h) (A := (m : Int) - 1) (b := st) (B := st) hv1 (by omega) s0 (Int.le_refl _)
      refine am_go (ct := fun pc => Nat.beq pc 34 || Nat.beq pc 5) am_oX6_evenest 300 ?_
      conv => whnf
      repeat' first
        | (refine (?_ : am_wp _ _ _ _ _ _ _ _ _ _ _ _); conv => whnf)
        | (refine (?_ : am_sw _ _ _ _); conv => whnf)
        | refine And.intro trivial ?_
        | exact trivial
        | ((with_reducible refine (?_ : ∀ j : Nat, (_ : Option Nat) = some j → _)); refine am_aa1 (a := 82) rfl ?_)
        | (have hm' : h < (m : Int) := (by (simp only [ch, cm] at *; first | done | omega)); (first | have hst := hst hm' | skip); refine s_tenthsFrom 2 (h * st) (by rw [eF]; exact hw) (by decide) (by rw [e14]; exact hB) hst.1 (by omega) (fun v ev v0 v1 => ?_); rw [eF] at ev)
        | (refine k5 _ _ hv0 (fun k hk => hv3 k (by (simp only [ch, cm] at *; first | done | omega))))
        | ((with_reducible refine (?_ : ∀ j : Nat, (_ : Option Nat) = some j → _)); refine am_aa1 (a := 82) rfl ?_)
        | refine ih _ _ ?_ ?_ ?_ ?_ ?_
        | refine And.intro (fun h => absurd h (by decide)) (fun _ => ?_)
        | refine And.intro (fun _ => ?_) (fun h => absurd (by decide) h)
        | refine And.intro (fun _ => ?_) (fun _ => ?_)
        | refine And.intro ?_ ?_
      all_goals (first | decide | assumption | omega | (rw [ch]; (simp only [ch, cm] at *; first | done | omega)) | (intro a b q; rw [am_upN q]; exact hv0 a b q) | (intro k hk; by_cases d : (k : Int) = h; (rw [am_upS, if_pos ⟨rfl, by rw [eh]; omega⟩, ev, d]; rfl); (rw [am_upM (by rw [eh]; omega)]; exact hv3 k (by omega))) | (exfalso; have z : (20 : Int) ≤ am_c h := (by assumption); rw [ch] at z; simp only [ch, cm] at *; omega) | (trace_state; fail))
  have lp34' : ∀ (h : Int) (μ : am_N) , (∀ a b, a ≠ 82 → μ a b = ν a b) → 0 ≤ h → h ≤ (m : Int) → (∀ k : Nat, (k : Int) < h → μ 82 k = fp_tt (fv ν 1) 2 ((k : Int) * st)) → am_AW l 0 (fun _ => 0) 123 Q 34 [some (.inr (.inr 0)), some (.inl st), some (.inl mI), some (.inl (x * mI)), some (.inl 2), some (.inl h), none, none] [] μ := fun h μ hv0 hv1 hv2 hv3 => lp34 (((m : Int) - h) + 1).toNat h μ hv0 hv1 hv2 hv3 (by omega)
  refine am_go (ct := fun pc => Nat.beq pc 34 || Nat.beq pc 5) am_oX6_evenest 300 ?_
  conv => whnf
  repeat' first
    | (refine (?_ : am_wp _ _ _ _ _ _ _ _ _ _ _ _); conv => whnf)
    | (refine (?_ : am_sw _ _ _ _); conv => whnf)
    | refine And.intro trivial ?_
    | exact trivial
    | ((with_reducible refine (?_ : ∀ j : Nat, (_ : Option Nat) = some j → _)); refine am_aa1 (a := 82) rfl ?_)
    | refine lp34' _ _ ?_ ?_ ?_ ?_
    | refine And.intro (fun h => absurd h (by decide)) (fun _ => ?_)
    | refine And.intro (fun _ => ?_) (fun h => absurd (by decide) h)
    | refine And.intro (fun _ => ?_) (fun _ => ?_)
    | refine And.intro ?_ ?_
  all_goals (first | decide | assumption | omega | ((simp only [cn] at *; first | done | omega)) | (exfalso; (simp only [cn] at *; first | done | omega)) | (intros; rfl) | (intro k hk; exact absurd hk (by omega)) | (trace_state; fail))
