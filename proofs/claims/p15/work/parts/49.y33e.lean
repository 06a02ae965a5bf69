theorem s_evx1 {l : Launch} {ν : am_N} {Q : Option am_V → am_N → Prop} (st : Int) (m : Nat) (mI : Int) (em : mI = (m : Int)) (o5 : Option am_V) (hw : fp_fw 999 (fv ν 1)) (m2 : 2 ≤ m) (m20 : m ≤ 20) (s0 : 0 ≤ st) (s1 : ((m : Int) - 1) * st ≤ 99) (hn : ν 1 4 = 1) (hT : fp_TB ν (fv ν 1) st m 1) (k : ∀ μ' : am_N, (∀ a b, ¬(30 ≤ a ∧ a ≤ 32) → ¬(a = 29 ∧ b = 0) → μ' a b = ν a b) → μ' 29 0 = 1 → Q (some (.inl ((fp_sb3 (fv ν 1) st m 1 : Nat) : Int))) μ') : am_AW l 0 (fun _ => 0) 123 Q 5 [some (.inr (.inr 0)), some (.inl st), some (.inl mI), some (.inl (fp_pw mI 1)), some (.inl 1), o5, none, none] [] ν := by
  have l0 : am_c 0 = 0 := rfl
  have l1 : am_c 1 = 1 := rfl
  have l2 : am_c 2 = 2 := rfl
  have l3 : am_c 3 = 3 := rfl
  have l5 : am_c 5 = 5 := rfl
  have l20 : am_c 20 = 20 := rfl
  have l50 : am_c 50 = 50 := rfl
  have l99 : am_c 99 = 99 := rfl
  have pb := fp_pw_b (m := mI) (by omega) (by omega) 1 (by decide)
  have cA : am_c (fp_pw mI 1) = (fp_pw mI 1) := am_cR (by omega) (by omega)
  have cn : am_c (ν 1 4) = 1 := by rw [hn]; rfl
  have e4 : fv ν 1 0 4 = ((1 : Nat) : Int) := (fv_0 (by decide)).trans hn
  obtain ⟨U, hU⟩ : ∃ U : Nat → Int, U = fp_um (fv ν 1) st m 1 := ⟨_, rfl⟩
  have ub := fun c : Nat => (show 0 ≤ U c ∧ U c ≤ 256 by rw [hU]; exact fp_um_b (F := (fv ν 1)) (st := st) (m := m) (n := 1) (c := c) (by rw [e4]; decide) (by rw [e4]; decide))
  have kk := fun (x : Int) (μ' : am_N) (f : (∀ a b, ¬(30 ≤ a ∧ a ≤ 32) → ¬(a = 29 ∧ b = 0) → μ' a b = ν a b)) (e29 : μ' 29 0 = 1) (e : x = ((fp_sb3 (fv ν 1) st m 1 : Nat) : Int)) => am_qe (k μ' f e29) e
  have lp111 : ∀ (fz : Nat) (t y c : Int) (o7 : Option am_V) (μ : am_N) , (∀ a b, ¬(30 ≤ a ∧ a ≤ 32) → ¬(a = 29 ∧ b = 0) → μ a b = ν a b) → μ 29 0 = 1 → 0 ≤ c → c ≤ (fp_pw mI 1) → c = 0 ∨ fp_RW μ (fv ν 1) st m 1 (c.toNat - 1) → (c = 0 ∧ t = 0 ∧ y = 1) ∨ (1 ≤ c ∧ t = ((fq_m U (c.toNat - 1) : Nat) : Int) ∧ y = U (fq_m U (c.toNat - 1))) → (fp_pw mI 1) - c < (fz : Int) → am_AW l 0 (fun _ => 0) 123 Q 111 [some (.inr (.inr 0)), some (.inl st), some (.inl mI), some (.inl (fp_pw mI 1)), some (.inl t), some (.inl y), some (.inl c), o7] [] μ := by
    intro fz
    induction fz with
    | zero =>
      intro t y c o7 μ hv0 hv1 hv2 hv3 hv4 hv5 hm
      exfalso
      omega
    | succ fz ih =>
      intro t y c o7 μ hv0 hv1 hv2 hv3 hv4 hv5 hm
      have cc : am_c c = c := am_cR (by omega) (by omega)
      have ec : ((c.toNat : Nat) : Int) = c := Int.toNat_of_nonneg hv2
      have e14 : μ 1 4 = 1 := (hv0 1 4 (by decide) (by omega)).trans hn
      have hT2 : fp_TB μ (fv ν 1) st m 1 := ⟨fun r h q1 q2 => (hv0 (80 + r) h (by omega) (by omega)).trans (hT.1 r h q1 q2), fun r q => (hv0 5 r (by omega) (by omega)).trans (hT.2 r q)⟩
      have yb : 0 ≤ y ∧ y ≤ 256 := by rcases hv5 with z | z; (omega); (have x := ub (fq_m U (c.toNat - 1)); omega)
      have cy : am_c y = y := am_cR (by omega) (by omega)
      have uc := ub c.toNat
      have cu : am_c (U c.toNat) = U c.toNat := am_cR (by omega) (by omega)
      refine am_go (ct := fun pc => Nat.beq pc 111) am_oX6_evenest 300 ?_
      conv => whnf
      repeat' first
        | (refine (?_ : am_wp _ _ _ _ _ _ _ _ _ _ _ _); conv => whnf)
        | (refine (?_ : am_sw _ _ _ _); conv => whnf)
        | refine And.intro trivial ?_
        | exact trivial
        | (refine s_putStarts1 (fv ν 1) st m c.toNat mI c em ec.symm hw m2 m20 (by omega) s0 s1 e14 e4 hT2 (by rcases hv4 with z | z; (exact Or.inl (by omega)); (exact Or.inr z)) (fun μ2 f2 w2 => ?_); have n2 : μ2 29 0 = 1 := (f2 29 0 (by decide)).trans hv1)
        | (refine x_uneven (fp_se (fv ν 1) st m 1 c.toNat) (by rw [n2]; decide) (by rw [n2]; decide) (by rw [n2, fp_se_0 (by decide)]; exact e4) (fun j hj => by rw [n2] at hj; have z := w2 j (by omega); have sb := fp_sv_b (st := st) (m := m) (c := c.toNat) (a := 1 - 1 - j) (by omega) s0 s1; have tb := fp_tt_b (F := (fv ν 1)) (q := j) (s := fp_sv st m c.toNat (1 - 1 - j)) hw (by rw [e4]; exact hj) sb.1 sb.2; have sp := (hw.2.2.2.2.2.2 j (by rw [e4]; exact hj)).2.2.2; have pb := fp_pt_b (t := fp_tt (fv ν 1) j (fp_sv st m c.toNat (1 - 1 - j))) (s := (fv ν 1) 4 j) (q := 0) tb.1 (by omega) sp.1 sp.2; rw [z.1, z.2.1, z.2.2]; omega) (fun r hr => by rw [n2] at hr ⊢; exact fp_RW_l w2 (by decide) (by omega) e4) ?_; have e6 : fp_un (fp_se (fv ν 1) st m 1 c.toNat) = U c.toNat := (congrFun hU c.toNat).symm; rw [e6])
        | (refine kk _ _ hv0 hv1 ?_)
        | refine ih _ _ _ _ _ ?_ ?_ ?_ ?_ ?_ ?_ ?_
        | refine And.intro (fun h => absurd h (by decide)) (fun _ => ?_)
        | refine And.intro (fun _ => ?_) (fun h => absurd (by decide) h)
        | refine And.intro (fun _ => ?_) (fun _ => ?_)
        | refine And.intro ?_ ?_
      all_goals (first | decide | (with_reducible assumption) | omega | (intro a b q1 q2; exact (f2 a b q1).trans (hv0 a b q1 q2)) | ((simp only [cc, cA] at *; first | done | omega)) | (refine Or.inr ?_; rw [show (c + 1).toNat - 1 = c.toNat by omega]; exact w2) | (refine Or.inr ⟨by omega, ?_⟩; rcases hv5 with ⟨z1, z2, z3⟩ | ⟨z1, z2, z3⟩; (first | (exfalso; (simp only [cc, cu, cy, l0] at *; first | done | omega)) | (subst z1; exact ⟨rfl, rfl⟩)); (rw [fq_m_s z1]; first | (rw [if_pos (by rw [← z3]; (simp only [cc, cu, cy, l0] at *; first | done | omega))]; exact ⟨ec.symm, rfl⟩) | (rw [if_neg (by rw [← z3]; (simp only [cc, cu, cy, l0] at *; first | done | omega))]; exact ⟨z2, z3⟩) | (exfalso; (simp only [cc, cu, cy, l0] at *; first | done | omega)))) | (have x := hv5.resolve_left (by (simp only [cc, cy, cA, l0] at *; first | done | omega)); rw [x.2.1]; unfold fp_sb3; rw [← em, ← hU]; first | (rw [show c.toNat - 1 = (fp_pw mI 1).toNat - 1 by (simp only [cc, cA] at *; first | done | omega)]) | (have y0 : U (fq_m U (c.toNat - 1)) = 0 := (by rw [← x.2.2]; (simp only [cy, l0] at *; first | done | omega)); have z := fq_m_z (fun i => (ub i).1) y0 ((fp_pw mI 1).toNat - 1 - (c.toNat - 1)); rw [show c.toNat - 1 + ((fp_pw mI 1).toNat - 1 - (c.toNat - 1)) = (fp_pw mI 1).toNat - 1 by omega] at z; rw [z])) | (trace_state; fail))
  have lp111' : ∀ (t y c : Int) (o7 : Option am_V) (μ : am_N) , (∀ a b, ¬(30 ≤ a ∧ a ≤ 32) → ¬(a = 29 ∧ b = 0) → μ a b = ν a b) → μ 29 0 = 1 → 0 ≤ c → c ≤ (fp_pw mI 1) → c = 0 ∨ fp_RW μ (fv ν 1) st m 1 (c.toNat - 1) → (c = 0 ∧ t = 0 ∧ y = 1) ∨ (1 ≤ c ∧ t = ((fq_m U (c.toNat - 1) : Nat) : Int) ∧ y = U (fq_m U (c.toNat - 1))) → am_AW l 0 (fun _ => 0) 123 Q 111 [some (.inr (.inr 0)), some (.inl st), some (.inl mI), some (.inl (fp_pw mI 1)), some (.inl t), some (.inl y), some (.inl c), o7] [] μ := fun t y c o7 μ hv0 hv1 hv2 hv3 hv4 hv5 => lp111 (((fp_pw mI 1) - c) + 1).toNat t y c o7 μ hv0 hv1 hv2 hv3 hv4 hv5 (by omega)
  refine am_go (ct := fun pc => Nat.beq pc 111) am_oX6_evenest 300 ?_
  conv => whnf
  repeat' first
    | (refine (?_ : am_wp _ _ _ _ _ _ _ _ _ _ _ _); conv => whnf)
    | (refine (?_ : am_sw _ _ _ _); conv => whnf)
    | refine And.intro trivial ?_
    | exact trivial
    | refine lp111' _ _ _ _ _ ?_ ?_ ?_ ?_ ?_ ?_
    | refine And.intro (fun h => absurd h (by decide)) (fun _ => ?_)
    | refine And.intro (fun _ => ?_) (fun h => absurd (by decide) h)
    | refine And.intro (fun _ => ?_) (fun _ => ?_)
    | refine And.intro ?_ ?_
  all_goals (first | decide | assumption | omega | ((simp only [cn] at *; first | done | omega)) | (exfalso; (simp only [cn] at *; first | done | omega)) | (intro a b q1 q2; exact am_uE q2) | (exact (if_pos ⟨rfl, rfl⟩ : am_up ν 29 0 (ν 1 4) 29 0 = ν 1 4).trans hn) | exact Or.inl rfl | exact Or.inl ⟨rfl, rfl, rfl⟩ | (trace_state; fail))
theorem s_evenest1 {l : Launch} {ν : am_N} {Q : Option am_V → am_N → Prop} (st : Int) (m : Nat) (mI : Int) (em : mI = (m : Int)) (hw : fp_fw 999 (fv ν 1)) (m2 : 2 ≤ m) (m20 : m ≤ 20) (s0 : 0 ≤ st) (st1 : st ≤ 50) (s1 : ((m : Int) - 1) * st ≤ 99) (hn : ν 1 4 = 1) (k : ∀ μ' : am_N, (∀ a b, ¬(30 ≤ a ∧ a ≤ 32) → ¬(a = 29 ∧ b = 0) → ¬(80 ≤ a ∧ a ≤ 82) → μ' a b = ν a b) → μ' 29 0 = 1 → Q (some (.inl ((fp_sb3 (fv ν 1) st m 1 : Nat) : Int))) μ') : am_Does l 123 [.inr (.inr 0), .inl st, .inl mI] ν Q := by
  refine am_Does_of (Nat.le_of_ble_eq_true rfl) (Nat.le_of_ble_eq_true rfl) (Nat.le_of_ble_eq_true rfl) ?_
  refine am_go (ct := fun pc => Nat.beq pc 5) am_oX6_evenest 300 ?_
  conv => whnf
  repeat' first
    | (refine (?_ : am_wp _ _ _ _ _ _ _ _ _ _ _ _); conv => whnf)
    | refine And.intro trivial ?_
  refine s_evr0 st m mI em 1 _ hw m2 m20 s0 st1 s1 (by rw [hn]; decide) (fun o0 μ1 f0 t0 => ?_)
  have eF1 : fv μ1 1 = (fv ν 1) := (fv_keep (fun a b q1 q2 => f0 a b (by omega)))
  have e14_1 : μ1 1 4 = 1 := (f0 1 4 (by decide)).trans hn
  have hT : fp_TB μ1 (fv μ1 1) st m 1 := by
    rw [eF1]
    refine ⟨fun r h q1 q2 => ?_, fun r q => ?_⟩
    · obtain rfl : r = 0 := by omega
      exact t0 h q2
    · exact (f0 5 r (by omega)).trans (fv_a (μ := ν) (c := 1) (a := 4) (by decide) (by decide) (by omega)).symm
  refine s_evx1 st m mI em _ (by rw [eF1]; exact hw) m2 m20 s0 s1 e14_1 hT (fun μ9 f9 n9 => ?_)
  rw [eF1]
  exact k μ9 (fun a b q1 q2 q3 => (f9 a b q1 q2).trans ((f0 a b (by omega)))) n9
