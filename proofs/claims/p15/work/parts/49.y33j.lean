theorem n_starts {l : Launch} {ν : am_N} {Q : Option am_V → am_N → Prop} (st i : Int) (cs : am_c st = st) (ci : am_c i = i) (hm : mi ν) (hw : fp_fw 999 (mv ν)) (k : ∀ μ' : am_N, gm mQ ν μ' → Q (some (.inl (fp_str (mv ν) st i))) μ') : am_Does l 197 [.inr (.inr 83), .inl st, .inl i] ν Q := by
  refine am_Does_of (Nat.le_of_ble_eq_true rfl) (Nat.le_of_ble_eq_true rfl) (Nat.le_of_ble_eq_true rfl) ?_
  have l0 : am_c 0 = 0 := rfl
  have l1 : am_c 1 = 1 := rfl
  have l2 : am_c 2 = 2 := rfl
  have l3 : am_c 3 = 3 := rfl
  have l5 : am_c 5 = 5 := rfl
  have l20 : am_c 20 = 20 := rfl
  have l50 : am_c 50 = 50 := rfl
  have l99 : am_c 99 = 99 := rfl
  have m1' : am_c (-1) = -1 := rfl
  have m2' : am_c (-2) = -2 := rfl
  have m3' : am_c (-3) = -3 := rfl
  have m4' : am_c (-4) = -4 := rfl
  have m6' : am_c (-6) = -6 := rfl
  have m9' : am_c (-9) = -9 := rfl
  have hm0 := hm
  obtain ⟨hf, -, -, -, -, -, hx⟩ := fw_M hw (by decide)
  have f0 := hf.1.1
  have f1 := hf.1.2
  have e4 : mv ν 0 4 = ν 83 14 := rfl
  have cn : am_c (ν 83 14) = ν 83 14 := am_cR (by omega) (by omega)
  have kk := fun (x : Int) (μ' : am_N) (h : gm mQ ν μ') (e : x = fp_str (mv ν) st i) => am_qe (k μ' h) e
  clear k
  have lp104 : ∀ (fz : Nat) (y r M : Int) (μ : am_N) , gm mQ ν μ → y = ((fp_dq (99 / st + 1).toNat (fp_sb3 (mv ν) st (99 / st + 1).toNat (ν 83 14).toNat) ((ν 83 14).toNat - 1 - r.toNat) : Nat) : Int) → i ≤ r → r < ν 83 14 → (5 ≤ st ∧ st ≤ 50) → 0 ≤ i → (1 ≤ ν 83 14 ∧ ν 83 14 ≤ 3) → M = (((99 / st + 1).toNat : Nat) : Int) → r - i < (fz : Int) → am_AW l 0 (fun _ => 0) 197 Q 104 [some (.inr (.inr 83)), some (.inl st), some (.inl i), some (.inl 0), some (.inl M), some (.inl y), some (.inl r)] [] μ := by
    intro fz
    induction fz with
    | zero =>
      intro y r M μ hv0 hv1 hv2 hv3 hv4 hv5 hv6 hv7 hm
      exfalso
      omega
    | succ fz ih =>
      intro y r M μ hv0 hv1 hv2 hv3 hv4 hv5 hv6 hv7 hm
      have cr : am_c r = r := am_cR (by omega) (by omega)
      obtain ⟨m1, m2, m3⟩ := fp_stm hv4.1 hv4.2
      have pb := fp_pw_b (m := (((99 / st + 1).toNat : Nat) : Int)) (by omega) (by omega) (ν 83 14).toNat (by omega)
      have bl := fq_m_l (fp_um (mv ν) st (99 / st + 1).toNat (ν 83 14).toNat) ((fp_pw (((99 / st + 1).toNat : Nat) : Int) (ν 83 14).toNat).toNat - 1)
      have bl2 : fp_sb3 (mv ν) st (99 / st + 1).toNat (ν 83 14).toNat ≤ 8000 := by unfold fp_sb3; omega
      have dl := fp_dq_l (99 / st + 1).toNat (fp_sb3 (mv ν) st (99 / st + 1).toNat (ν 83 14).toNat) ((ν 83 14).toNat - 1 - r.toNat)
      have cy : am_c y = y := am_cR (by omega) (by omega)
      have cm : am_c M = M := am_cR (by omega) (by omega)
      have rem : (am_c y).tmod (am_c M) = ((fp_dq (99 / st + 1).toNat (fp_sb3 (mv ν) st (99 / st + 1).toNat (ν 83 14).toNat) ((ν 83 14).toNat - 1 - r.toNat) % (99 / st + 1).toNat : Nat) : Int) := by rw [cy, cm, hv1, hv7]; exact fp_rmN _ _
      have quo : (am_c y).tdiv (am_c M) = ((fp_dq (99 / st + 1).toNat (fp_sb3 (mv ν) st (99 / st + 1).toNat (ν 83 14).toNat) ((ν 83 14).toNat - 1 - r.toNat + 1) : Nat) : Int) := by rw [cy, cm, hv1, hv7]; exact fp_qmN _ _
      refine am_go (ct := fun pc => Nat.beq pc 104) am_oX7_starts 300 ?_
      conv => whnf
      repeat' first
        | (refine (?_ : am_wp _ _ _ _ _ _ _ _ _ _ _ _); conv => whnf)
        | (refine (?_ : am_sw _ _ _ _); conv => whnf)
        | refine And.intro trivial ?_
        | exact trivial
        | (refine (?_ : gm _ _ _); (first | decide | assumption | omega | (rw [cm]; omega) | ((simp only [cr, ci] at *; first | done | omega)) | (rw [quo, show (ν 83 14).toNat - 1 - r.toNat + 1 = (ν 83 14).toNat - 1 - (r + -1).toNat by omega]) | (rw [quo, show (ν 83 14).toNat - 1 - r.toNat + 1 = (ν 83 14).toNat - 1 - (r - 1).toNat by omega]) | (unfold fp_str; rw [e4, if_neg (by omega), if_neg (by omega), if_neg (by omega), if_neg (by omega), rE]; rfl) | (trace_state; fail)))
        | (have rE : r = i := (by (simp only [cr, ci] at *; first | done | omega)); rw [rem]; refine kk _ _ hv0 ?_)
        | refine x_isIn (ν 83 14) _ _ _ rfl cn ?_ ?_ (fun y0 y1 => ?_) (fun y => ?_)
        | refine x_no _ ?_ (fun μr fr => ?_)
        | (have h5 : 5 ≤ st ∧ st ≤ 50 := (by (simp only [cs, l5, l50] at *; first | done | omega)); have hi0 : 0 ≤ i := (by (simp only [ci, l0] at *; first | done | omega)); have hin : i < ν 83 14 := (by (simp only [ci, cn] at *; first | done | omega)); have em : (am_c 99).tdiv (am_c st) + 1 = (((99 / st + 1).toNat : Nat) : Int) := (by obtain ⟨m1, m2, m3⟩ := fp_stm h5.1 h5.2; rw [l99, cs, Int.tdiv_eq_ediv_of_nonneg (by decide)]; omega); refine m_keep1 (fun μ1 u1 _ _ _ => ?_); have hD : MD mQ ν μ1 := md_start (gm_rf hm0) u1; have p1 : mv μ1 = (mv ν) := mv_keep (fun a b q => u1.2 a b (by omega) (by omega)); have n1 : μ1 83 14 = ν 83 14 := u1.2 83 14 (by omega) (by omega))
        | (refine n_findStarts st (99 / st + 1).toNat cs (md_i hD) (by rw [p1]; exact hw) (by rw [n1]; exact ⟨y0, y1⟩) h5 rfl (fun μ2 f2 p2 b2 => ?_); rw [p1, n1] at b2; have hG2 : gm mM μ1 μ2 := gm_fs (md_i hD) (fun a b q1 q2 q3 q4 q5 => f2 a b (fun z => q1 z.1) q2 q3 q4 q5) p2)
        | (refine m_come1 (fun μ3 u3 _ _ _ => ?_); have hG : gm mQ ν μ3 := md_back (md_tr hD hG2 (fun _ _ q => q)) u3 (fun _ _ q => q); have b3 : μ3 83 35 = ((fp_sb3 (mv ν) st (99 / st + 1).toNat (ν 83 14).toNat : Nat) : Int) := (u3.2 83 35 rfl (by omega)).trans b2; have n3 : μ3 83 14 = ν 83 14 := hG.2 83 14 rfl)
        | (rw [b3, n3]; refine lp104' _ _ _ _ hG ?_ ?_ ?_ h5 hi0 ⟨y0, y1⟩ em)
        | refine kk _ _ (gm_rfQ hm0) ?_
        | refine kk _ _ (gm_84 (fun _ => rfl) hm0 fr) ?_
        | refine And.intro (fun h => absurd h (by omega)) (fun _ => ?_)
        | refine And.intro (fun _ => ?_) (fun h => absurd h (by omega))
        | refine ih _ _ _ _ ?_ ?_ ?_ ?_ ?_ ?_ ?_ ?_ ?_
        | refine And.intro (fun h => absurd h (by decide)) (fun _ => ?_)
        | refine And.intro (fun _ => ?_) (fun h => absurd (by decide) h)
        | refine And.intro (fun _ => ?_) (fun _ => ?_)
        | refine And.intro ?_ ?_
      all_goals (first | decide | assumption | omega | (rw [cm]; omega) | ((simp only [cr, ci] at *; first | done | omega)) | (rw [quo, show (ν 83 14).toNat - 1 - r.toNat + 1 = (ν 83 14).toNat - 1 - (r + -1).toNat by omega]) | (rw [quo, show (ν 83 14).toNat - 1 - r.toNat + 1 = (ν 83 14).toNat - 1 - (r - 1).toNat by omega]) | (unfold fp_str; rw [e4, if_neg (by omega), if_neg (by omega), if_neg (by omega), if_neg (by omega), rE]; rfl) | (trace_state; fail))
  have lp104' : ∀ (y r M : Int) (μ : am_N) , gm mQ ν μ → y = ((fp_dq (99 / st + 1).toNat (fp_sb3 (mv ν) st (99 / st + 1).toNat (ν 83 14).toNat) ((ν 83 14).toNat - 1 - r.toNat) : Nat) : Int) → i ≤ r → r < ν 83 14 → (5 ≤ st ∧ st ≤ 50) → 0 ≤ i → (1 ≤ ν 83 14 ∧ ν 83 14 ≤ 3) → M = (((99 / st + 1).toNat : Nat) : Int) → am_AW l 0 (fun _ => 0) 197 Q 104 [some (.inr (.inr 83)), some (.inl st), some (.inl i), some (.inl 0), some (.inl M), some (.inl y), some (.inl r)] [] μ := fun y r M μ hv0 hv1 hv2 hv3 hv4 hv5 hv6 hv7 => lp104 ((r - i) + 1).toNat y r M μ hv0 hv1 hv2 hv3 hv4 hv5 hv6 hv7 (by omega)
  refine am_go (ct := fun pc => Nat.beq pc 104) am_oX7_starts 300 ?_
  conv => whnf
  repeat' first
    | (refine (?_ : am_wp _ _ _ _ _ _ _ _ _ _ _ _); conv => whnf)
    | (refine (?_ : am_sw _ _ _ _); conv => whnf)
    | refine And.intro trivial ?_
    | exact trivial
    | (refine (?_ : gm _ _ _); (first | decide | assumption | omega | rfl | ((simp only [cs, ci, cn, l0, l5, l50] at *; first | done | omega)) | (rw [cs]; omega) | (rw [show (ν 83 14).toNat - 1 - (ν 83 14 - 1).toNat = 0 by omega]; rfl) | (unfold fp_str; rw [if_pos (by (simp only [cs, ci, l0, l5] at *; first | done | omega))]) | (unfold fp_str; rw [if_neg (by (simp only [cs, ci, l0, l5] at *; first | done | omega)), if_pos (by (simp only [cs, l50] at *; first | done | omega))]) | (unfold fp_str; rw [e4, if_neg (by (simp only [cs, ci, l0, l5] at *; first | done | omega)), if_neg (by (simp only [cs, l50] at *; first | done | omega)), if_pos (by omega)]) | (unfold fp_str; rw [e4, if_neg (by (simp only [cs, ci, l0, l5] at *; first | done | omega)), if_neg (by (simp only [cs, l50] at *; first | done | omega)), if_neg (by omega), if_pos (by (simp only [cn, ci] at *; first | done | omega))]) | (trace_state; fail)))
    | refine x_isIn (ν 83 14) _ _ _ rfl cn ?_ ?_ (fun y0 y1 => ?_) (fun y => ?_)
    | refine x_no _ ?_ (fun μr fr => ?_)
    | (have h5 : 5 ≤ st ∧ st ≤ 50 := (by (simp only [cs, l5, l50] at *; first | done | omega)); have hi0 : 0 ≤ i := (by (simp only [ci, l0] at *; first | done | omega)); have hin : i < ν 83 14 := (by (simp only [ci, cn] at *; first | done | omega)); have em : (am_c 99).tdiv (am_c st) + 1 = (((99 / st + 1).toNat : Nat) : Int) := (by obtain ⟨m1, m2, m3⟩ := fp_stm h5.1 h5.2; rw [l99, cs, Int.tdiv_eq_ediv_of_nonneg (by decide)]; omega); refine m_keep1 (fun μ1 u1 _ _ _ => ?_); have hD : MD mQ ν μ1 := md_start (gm_rf hm0) u1; have p1 : mv μ1 = (mv ν) := mv_keep (fun a b q => u1.2 a b (by omega) (by omega)); have n1 : μ1 83 14 = ν 83 14 := u1.2 83 14 (by omega) (by omega))
    | (refine n_findStarts st (99 / st + 1).toNat cs (md_i hD) (by rw [p1]; exact hw) (by rw [n1]; exact ⟨y0, y1⟩) h5 rfl (fun μ2 f2 p2 b2 => ?_); rw [p1, n1] at b2; have hG2 : gm mM μ1 μ2 := gm_fs (md_i hD) (fun a b q1 q2 q3 q4 q5 => f2 a b (fun z => q1 z.1) q2 q3 q4 q5) p2)
    | (refine m_come1 (fun μ3 u3 _ _ _ => ?_); have hG : gm mQ ν μ3 := md_back (md_tr hD hG2 (fun _ _ q => q)) u3 (fun _ _ q => q); have b3 : μ3 83 35 = ((fp_sb3 (mv ν) st (99 / st + 1).toNat (ν 83 14).toNat : Nat) : Int) := (u3.2 83 35 rfl (by omega)).trans b2; have n3 : μ3 83 14 = ν 83 14 := hG.2 83 14 rfl)
    | (rw [b3, n3]; refine lp104' _ _ _ _ hG ?_ ?_ ?_ h5 hi0 ⟨y0, y1⟩ em)
    | refine kk _ _ (gm_rfQ hm0) ?_
    | refine kk _ _ (gm_84 (fun _ => rfl) hm0 fr) ?_
    | refine And.intro (fun h => absurd h (by omega)) (fun _ => ?_)
    | refine And.intro (fun _ => ?_) (fun h => absurd h (by omega))
    | refine lp104' _ _ _ _ ?_ ?_ ?_ ?_ ?_ ?_ ?_ ?_
    | refine And.intro (fun h => absurd h (by decide)) (fun _ => ?_)
    | refine And.intro (fun _ => ?_) (fun h => absurd (by decide) h)
    | refine And.intro (fun _ => ?_) (fun _ => ?_)
    | refine And.intro ?_ ?_
  all_goals (first | decide | assumption | omega | rfl | ((simp only [cs, ci, cn, l0, l5, l50] at *; first | done | omega)) | (rw [cs]; omega) | (rw [show (ν 83 14).toNat - 1 - (ν 83 14 - 1).toNat = 0 by omega]; rfl) | (unfold fp_str; rw [if_pos (by (simp only [cs, ci, l0, l5] at *; first | done | omega))]) | (unfold fp_str; rw [if_neg (by (simp only [cs, ci, l0, l5] at *; first | done | omega)), if_pos (by (simp only [cs, l50] at *; first | done | omega))]) | (unfold fp_str; rw [e4, if_neg (by (simp only [cs, ci, l0, l5] at *; first | done | omega)), if_neg (by (simp only [cs, l50] at *; first | done | omega)), if_pos (by omega)]) | (unfold fp_str; rw [e4, if_neg (by (simp only [cs, ci, l0, l5] at *; first | done | omega)), if_neg (by (simp only [cs, l50] at *; first | done | omega)), if_neg (by omega), if_pos (by (simp only [cn, ci] at *; first | done | omega))]) | (trace_state; fail))
