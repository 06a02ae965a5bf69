theorem s_starts {l : Launch} {ν : am_N} {Q : Option am_V → am_N → Prop} (st i : Int) (cs : am_c st = st) (ci : am_c i = i) (hS : sx ν ν) (hw : fp_fw 999 (fv ν 1)) (k : ∀ μ' : am_N, sx ν μ' → Q (some (.inl (fp_str (fv ν 1) st i))) μ') : am_Does l 74 [.inr (.inr 0), .inl st, .inl i] ν Q := by
  refine am_Does_of (Nat.le_of_ble_eq_true rfl) (Nat.le_of_ble_eq_true rfl) (Nat.le_of_ble_eq_true rfl) ?_
  have l0 : am_c 0 = 0 := rfl
  have l1 : am_c 1 = 1 := rfl
  have l2 : am_c 2 = 2 := rfl
  have l3 : am_c 3 = 3 := rfl
  have l5 : am_c 5 = 5 := rfl
  have l20 : am_c 20 = 20 := rfl
  have l50 : am_c 50 = 50 := rfl
  have l99 : am_c 99 = 99 := rfl
  have m1' : am_c (-1) = -1 := rfl
  have m2' : am_c (-2) = -2 := rfl
  have m3' : am_c (-3) = -3 := rfl
  have m4' : am_c (-4) = -4 := rfl
  have m6' : am_c (-6) = -6 := rfl
  have m9' : am_c (-9) = -9 := rfl
  obtain ⟨hf, -, -, -, -, -, hx⟩ := fw_C hw (by decide)
  have f0 := hf.1.1
  have f1 := hf.1.2
  have e4 : fv ν 1 0 4 = ν 1 4 := fv_0 (by decide)
  have cn : am_c (ν 1 4) = ν 1 4 := am_cR (by omega) (by omega)
  have kk := fun (x : Int) (μ' : am_N) (h : sx ν μ') (e : x = fp_str (fv ν 1) st i) => am_qe (k μ' h) e
  clear k
  have lp97 : ∀ (fz : Nat) (y r M : Int) (μ : am_N) , sx ν μ → y = ((fp_dq (99 / st + 1).toNat (fp_sb3 (fv ν 1) st (99 / st + 1).toNat (ν 1 4).toNat) ((ν 1 4).toNat - 1 - r.toNat) : Nat) : Int) → i ≤ r → r < ν 1 4 → (5 ≤ st ∧ st ≤ 50) → 0 ≤ i → (1 ≤ ν 1 4 ∧ ν 1 4 ≤ 3) → M = (((99 / st + 1).toNat : Nat) : Int) → r - i < (fz : Int) → am_AW l 0 (fun _ => 0) 74 Q 97 [some (.inr (.inr 0)), some (.inl st), some (.inl i), some (.inl M), some (.inl y), some (.inl r)] [] μ := by
    intro fz
    induction fz with
    | zero =>
      intro y r M μ hv0 hv1 hv2 hv3 hv4 hv5 hv6 hv7 hm
      exfalso
      omega
    | succ fz ih =>
      intro y r M μ hv0 hv1 hv2 hv3 hv4 hv5 hv6 hv7 hm
      have cr : am_c r = r := am_cR (by omega) (by omega)
      obtain ⟨m1, m2, m3⟩ := fp_stm hv4.1 hv4.2
      have pb := fp_pw_b (m := (((99 / st + 1).toNat : Nat) : Int)) (by omega) (by omega) (ν 1 4).toNat (by omega)
      have bl := fq_m_l (fp_um (fv ν 1) st (99 / st + 1).toNat (ν 1 4).toNat) ((fp_pw (((99 / st + 1).toNat : Nat) : Int) (ν 1 4).toNat).toNat - 1)
      have bl2 : fp_sb3 (fv ν 1) st (99 / st + 1).toNat (ν 1 4).toNat ≤ 8000 := by unfold fp_sb3; omega
      have dl := fp_dq_l (99 / st + 1).toNat (fp_sb3 (fv ν 1) st (99 / st + 1).toNat (ν 1 4).toNat) ((ν 1 4).toNat - 1 - r.toNat)
      have cy : am_c y = y := am_cR (by omega) (by omega)
      have cm : am_c M = M := am_cR (by omega) (by omega)
      have rem : (am_c y).tmod (am_c M) = ((fp_dq (99 / st + 1).toNat (fp_sb3 (fv ν 1) st (99 / st + 1).toNat (ν 1 4).toNat) ((ν 1 4).toNat - 1 - r.toNat) % (99 / st + 1).toNat : Nat) : Int) := by rw [cy, cm, hv1, hv7]; exact fp_rmN _ _
      have quo : (am_c y).tdiv (am_c M) = ((fp_dq (99 / st + 1).toNat (fp_sb3 (fv ν 1) st (99 / st + 1).toNat (ν 1 4).toNat) ((ν 1 4).toNat - 1 - r.toNat + 1) : Nat) : Int) := by rw [cy, cm, hv1, hv7]; exact fp_qmN _ _
      refine am_go (ct := fun pc => Nat.beq pc 97) am_oX6_starts 300 ?_
      conv => whnf
      repeat' first
        | (refine (?_ : am_wp _ _ _ _ _ _ _ _ _ _ _ _); conv => whnf)
        | (refine (?_ : am_sw _ _ _ _); conv => whnf)
        | refine And.intro trivial ?_
        | exact trivial
        | (refine (?_ : sx _ _); (first | decide | assumption | omega | (rw [cm]; omega) | ((simp only [cr, ci] at *; first | done | omega)) | (rw [quo, show (ν 1 4).toNat - 1 - r.toNat + 1 = (ν 1 4).toNat - 1 - (r + -1).toNat by omega]) | (rw [quo, show (ν 1 4).toNat - 1 - r.toNat + 1 = (ν 1 4).toNat - 1 - (r - 1).toNat by omega]) | (unfold fp_str; rw [e4, if_neg (by omega), if_neg (by omega), if_neg (by omega), if_neg (by omega), rE]; rfl) | (trace_state; fail)))
        | (have rE : r = i := (by (simp only [cr, ci] at *; first | done | omega)); rw [rem]; refine kk _ _ hv0 ?_)
        | refine x_refuse _ ?_ (fun μr fr => ?_)
        | (refine s_evenest1 st (99 / st + 1).toNat _ em hw (by omega) (by omega) (by omega) h5.2 m3' hn (fun μ2 f2 n2 => ?_); have sE : sx ν μ2 := KK μ2 f2 (by rw [n2]; decide); have e2 : μ2 1 4 = ν 1 4 := f2 1 4 (by decide) (by omega) (by decide); rw [congrArg (fp_sb3 (fv ν 1) st (99 / st + 1).toNat) (show (1 : Nat) = (ν 1 4).toNat by omega)])
        | (refine s_evenest2 st (99 / st + 1).toNat _ em hw (by omega) (by omega) (by omega) h5.2 m3' hn (fun μ2 f2 n2 => ?_); have sE : sx ν μ2 := KK μ2 f2 (by rw [n2]; decide); have e2 : μ2 1 4 = ν 1 4 := f2 1 4 (by decide) (by omega) (by decide); rw [congrArg (fp_sb3 (fv ν 1) st (99 / st + 1).toNat) (show (2 : Nat) = (ν 1 4).toNat by omega)])
        | (refine s_evenest3 st (99 / st + 1).toNat _ em hw (by omega) (by omega) (by omega) h5.2 m3' hn (fun μ2 f2 n2 => ?_); have sE : sx ν μ2 := KK μ2 f2 (by rw [n2]; decide); have e2 : μ2 1 4 = ν 1 4 := f2 1 4 (by decide) (by omega) (by decide); rw [congrArg (fp_sb3 (fv ν 1) st (99 / st + 1).toNat) (show (3 : Nat) = (ν 1 4).toNat by omega)])
        | ((with_reducible refine (?_ : am_Does _ 123 _ _ _)); have h5 : 5 ≤ st ∧ st ≤ 50 := (by (simp only [cs, l5, l50] at *; first | done | omega)); have hi0 : 0 ≤ i := (by (simp only [ci, l0] at *; first | done | omega)); have hN : 1 ≤ ν 1 4 ∧ ν 1 4 ≤ 3 := (by (simp only [cn, l0, l3] at *; first | done | omega)); obtain ⟨m1, m2, m3⟩ := fp_stm h5.1 h5.2; have em : (am_c 99).tdiv (am_c st) + 1 = (((99 / st + 1).toNat : Nat) : Int) := (by rw [l99, cs, Int.tdiv_eq_ediv_of_nonneg (by decide)]; omega); have m3' : ((((99 / st + 1).toNat : Nat) : Int) - 1) * st ≤ 99 := (by rw [Int.toNat_of_nonneg (by omega)]; exact m3); have KK : ∀ μ' : am_N, (∀ a b, ¬(30 ≤ a ∧ a ≤ 32) → ¬(a = 29 ∧ b = 0) → ¬(80 ≤ a ∧ a ≤ 82) → μ' a b = ν a b) → (0 ≤ μ' 29 0 ∧ μ' 29 0 ≤ 4) → sx ν μ' := (fun μ' f h => sx_ev hS f h); rcases (show ν 1 4 = 1 ∨ ν 1 4 = 2 ∨ ν 1 4 = 3 by omega) with hn | hn | hn)
        | refine kk _ _ (sx_rf hS.2.1 hS.2.2.1 hS.2.2.2.1 hS.2.2.2.2) ?_
        | refine kk _ _ (sx_78 hS fr) ?_
        | refine ih _ _ _ _ ?_ ?_ ?_ ?_ ?_ ?_ ?_ ?_ ?_
        | refine And.intro (fun h => absurd h (by decide)) (fun _ => ?_)
        | refine And.intro (fun _ => ?_) (fun h => absurd (by decide) h)
        | refine And.intro (fun _ => ?_) (fun _ => ?_)
        | refine And.intro ?_ ?_
      all_goals (first | decide | assumption | omega | (rw [cm]; omega) | ((simp only [cr, ci] at *; first | done | omega)) | (rw [quo, show (ν 1 4).toNat - 1 - r.toNat + 1 = (ν 1 4).toNat - 1 - (r + -1).toNat by omega]) | (rw [quo, show (ν 1 4).toNat - 1 - r.toNat + 1 = (ν 1 4).toNat - 1 - (r - 1).toNat by omega]) | (unfold fp_str; rw [e4, if_neg (by omega), if_neg (by omega), if_neg (by omega), if_neg (by omega), rE]; rfl) | (trace_state; fail))
  have lp97' : ∀ (y r M : Int) (μ : am_N) , sx ν μ → y = ((fp_dq (99 / st + 1).toNat (fp_sb3 (fv ν 1) st (99 / st + 1).toNat (ν 1 4).toNat) ((ν 1 4).toNat - 1 - r.toNat) : Nat) : Int) → i ≤ r → r < ν 1 4 → (5 ≤ st ∧ st ≤ 50) → 0 ≤ i → (1 ≤ ν 1 4 ∧ ν 1 4 ≤ 3) → M = (((99 / st + 1).toNat : Nat) : Int) → am_AW l 0 (fun _ => 0) 74 Q 97 [some (.inr (.inr 0)), some (.inl st), some (.inl i), some (.inl M), some (.inl y), some (.inl r)] [] μ := fun y r M μ hv0 hv1 hv2 hv3 hv4 hv5 hv6 hv7 => lp97 ((r - i) + 1).toNat y r M μ hv0 hv1 hv2 hv3 hv4 hv5 hv6 hv7 (by omega)
  refine am_go (ct := fun pc => Nat.beq pc 97) am_oX6_starts 300 ?_
  conv => whnf
  repeat' first
    | (refine (?_ : am_wp _ _ _ _ _ _ _ _ _ _ _ _); conv => whnf)
    | (refine (?_ : am_sw _ _ _ _); conv => whnf)
    | refine And.intro trivial ?_
    | exact trivial
    | (refine (?_ : sx _ _); (first | decide | (with_reducible assumption) | exact em | omega | rfl | ((simp only [cn, ci] at *; first | done | omega)) | ((simp only [e2, cn, ci] at *; first | done | omega)) | (rw [cs]; omega) | (rw [e2, show (ν 1 4).toNat - 1 - (ν 1 4 - 1).toNat = 0 by omega]; rfl) | (unfold fp_str; rw [if_pos (by (simp only [cs, ci, l0, l5] at *; first | done | omega))]) | (unfold fp_str; rw [if_neg (by (simp only [cs, ci, l0, l5] at *; first | done | omega)), if_pos (by (simp only [cs, l50] at *; first | done | omega))]) | (unfold fp_str; rw [e4, if_neg (by (simp only [cs, ci, l0, l5] at *; first | done | omega)), if_neg (by (simp only [cs, l50] at *; first | done | omega)), if_pos (by (simp only [cn, l0, l3] at *; first | done | omega))]) | (unfold fp_str; rw [e4, if_neg (by (simp only [cs, ci, l0, l5] at *; first | done | omega)), if_neg (by (simp only [cs, l50] at *; first | done | omega)), if_neg (by (simp only [cn, l0, l3] at *; first | done | omega)), if_pos (by (simp only [cn, ci] at *; first | done | omega))]) | assumption | (trace_state; fail)))
    | refine x_refuse _ ?_ (fun μr fr => ?_)
    | (refine s_evenest1 st (99 / st + 1).toNat _ em hw (by omega) (by omega) (by omega) h5.2 m3' hn (fun μ2 f2 n2 => ?_); have sE : sx ν μ2 := KK μ2 f2 (by rw [n2]; decide); have e2 : μ2 1 4 = ν 1 4 := f2 1 4 (by decide) (by omega) (by decide); rw [congrArg (fp_sb3 (fv ν 1) st (99 / st + 1).toNat) (show (1 : Nat) = (ν 1 4).toNat by omega)])
    | (refine s_evenest2 st (99 / st + 1).toNat _ em hw (by omega) (by omega) (by omega) h5.2 m3' hn (fun μ2 f2 n2 => ?_); have sE : sx ν μ2 := KK μ2 f2 (by rw [n2]; decide); have e2 : μ2 1 4 = ν 1 4 := f2 1 4 (by decide) (by omega) (by decide); rw [congrArg (fp_sb3 (fv ν 1) st (99 / st + 1).toNat) (show (2 : Nat) = (ν 1 4).toNat by omega)])
    | (refine s_evenest3 st (99 / st + 1).toNat _ em hw (by omega) (by omega) (by omega) h5.2 m3' hn (fun μ2 f2 n2 => ?_); have sE : sx ν μ2 := KK μ2 f2 (by rw [n2]; decide); have e2 : μ2 1 4 = ν 1 4 := f2 1 4 (by decide) (by omega) (by decide); rw [congrArg (fp_sb3 (fv ν 1) st (99 / st + 1).toNat) (show (3 : Nat) = (ν 1 4).toNat by omega)])
    | ((with_reducible refine (?_ : am_Does _ 123 _ _ _)); have h5 : 5 ≤ st ∧ st ≤ 50 := (by (simp only [cs, l5, l50] at *; first | done | omega)); have hi0 : 0 ≤ i := (by (simp only [ci, l0] at *; first | done | omega)); have hN : 1 ≤ ν 1 4 ∧ ν 1 4 ≤ 3 := (by (simp only [cn, l0, l3] at *; first | done | omega)); obtain ⟨m1, m2, m3⟩ := fp_stm h5.1 h5.2; have em : (am_c 99).tdiv (am_c st) + 1 = (((99 / st + 1).toNat : Nat) : Int) := (by rw [l99, cs, Int.tdiv_eq_ediv_of_nonneg (by decide)]; omega); have m3' : ((((99 / st + 1).toNat : Nat) : Int) - 1) * st ≤ 99 := (by rw [Int.toNat_of_nonneg (by omega)]; exact m3); have KK : ∀ μ' : am_N, (∀ a b, ¬(30 ≤ a ∧ a ≤ 32) → ¬(a = 29 ∧ b = 0) → ¬(80 ≤ a ∧ a ≤ 82) → μ' a b = ν a b) → (0 ≤ μ' 29 0 ∧ μ' 29 0 ≤ 4) → sx ν μ' := (fun μ' f h => sx_ev hS f h); rcases (show ν 1 4 = 1 ∨ ν 1 4 = 2 ∨ ν 1 4 = 3 by omega) with hn | hn | hn)
    | refine kk _ _ (sx_rf hS.2.1 hS.2.2.1 hS.2.2.2.1 hS.2.2.2.2) ?_
    | refine kk _ _ (sx_78 hS fr) ?_
    | refine lp97' _ _ _ _ ?_ ?_ ?_ ?_ ?_ ?_ ?_ ?_
    | refine And.intro (fun h => absurd h (by decide)) (fun _ => ?_)
    | refine And.intro (fun _ => ?_) (fun h => absurd (by decide) h)
    | refine And.intro (fun _ => ?_) (fun _ => ?_)
    | refine And.intro ?_ ?_
  all_goals (first | decide | (with_reducible assumption) | exact em | omega | rfl | ((simp only [cn, ci] at *; first | done | omega)) | ((simp only [e2, cn, ci] at *; first | done | omega)) | (rw [cs]; omega) | (rw [e2, show (ν 1 4).toNat - 1 - (ν 1 4 - 1).toNat = 0 by omega]; rfl) | (unfold fp_str; rw [if_pos (by (simp only [cs, ci, l0, l5] at *; first | done | omega))]) | (unfold fp_str; rw [if_neg (by (simp only [cs, ci, l0, l5] at *; first | done | omega)), if_pos (by (simp only [cs, l50] at *; first | done | omega))]) | (unfold fp_str; rw [e4, if_neg (by (simp only [cs, ci, l0, l5] at *; first | done | omega)), if_neg (by (simp only [cs, l50] at *; first | done | omega)), if_pos (by (simp only [cn, l0, l3] at *; first | done | omega))]) | (unfold fp_str; rw [e4, if_neg (by (simp only [cs, ci, l0, l5] at *; first | done | omega)), if_neg (by (simp only [cs, l50] at *; first | done | omega)), if_neg (by (simp only [cn, l0, l3] at *; first | done | omega)), if_pos (by (simp only [cn, ci] at *; first | done | omega))]) | assumption | (trace_state; fail))
