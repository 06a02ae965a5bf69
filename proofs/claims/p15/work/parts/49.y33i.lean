theorem mi_rc2 {ν μ : am_N} (h : mi ν) (e : ∀ a b, (a = 83 ∧ b ≠ 35 ∧ b ≠ 36) ∨ a = 98 → μ a b = ν a b) (p : sx_3 μ 100) : mi μ := by
  unfold mi at h ⊢
  rw [e 83 14 (by omega), e 83 15 (by omega), e 83 16 (by omega), e 83 21 (by omega), e 83 33 (by omega), e 83 40 (by omega), e 83 42 (by omega), e 98 44 (by omega), e 98 38 (by omega), e 98 39 (by omega)]
  exact ⟨h.1, h.2.1, h.2.2.1, h.2.2.2.1, h.2.2.2.2.1, h.2.2.2.2.2.1, h.2.2.2.2.2.2.1, h.2.2.2.2.2.2.2.1, h.2.2.2.2.2.2.2.2.1, h.2.2.2.2.2.2.2.2.2.1, p⟩
theorem gm_fs {ν μ : am_N} (h : mi ν) (f : ∀ a b, a ≠ 89 → a ≠ 99 → a ≠ 100 → a ≠ 104 → ¬(a = 83 ∧ (b = 35 ∨ b = 36)) → μ a b = ν a b) (p : sx_3 μ 100) : gm mM ν μ := by
  refine ⟨mi_rc2 h (fun a b q => f a b (by omega) (by omega) (by omega) (by omega) (by omega)) p, fun a b q => f a b (fun z => by rw [z] at q; cases q) (fun z => by rw [z] at q; cases q) (fun z => by rw [z] at q; cases q) (fun z => by rw [z] at q; cases q) (fun z => ?_)⟩
  obtain ⟨z1, z2⟩ := z
  rcases z2 with z2 | z2 <;> (rw [z1, z2] at q; cases q)
theorem gm_rfQ {ν : am_N} (h : mi ν) : gm mQ ν ν := gm_rf h
theorem n_findStarts {l : Launch} {ν : am_N} {Q : Option am_V → am_N → Prop} (st : Int) (m : Nat) (cs : am_c st = st) (hm : mi ν) (hw : fp_fw 999 (mv ν)) (hN : 1 ≤ ν 83 14 ∧ ν 83 14 ≤ 3) (h5 : 5 ≤ st ∧ st ≤ 50) (hM : m = (99 / st + 1).toNat) (k : ∀ μ' : am_N, (∀ a b, ¬(a = 89 ∧ b < (ν 83 14).toNat) → a ≠ 99 → a ≠ 100 → a ≠ 104 → ¬(a = 83 ∧ (b = 35 ∨ b = 36)) → μ' a b = ν a b) → sx_3 μ' 100 → μ' 83 35 = ((fp_sb3 (mv ν) st m (ν 83 14).toNat : Nat) : Int) → Q none μ') : am_Does l 196 [.inr (.inr 83), .inl st] ν Q := by
  refine am_Does_of (Nat.le_of_ble_eq_true rfl) (Nat.le_of_ble_eq_true rfl) (Nat.le_of_ble_eq_true rfl) ?_
  have l0 : am_c 0 = 0 := rfl
  have l1 : am_c 1 = 1 := rfl
  have l2 : am_c 2 = 2 := rfl
  have l3 : am_c 3 = 3 := rfl
  have l5 : am_c 5 = 5 := rfl
  have l20 : am_c 20 = 20 := rfl
  have l50 : am_c 50 = 50 := rfl
  have l99 : am_c 99 = 99 := rfl
  have hm0 := hm
  obtain ⟨m1, mm2, m3⟩ := fp_stm h5.1 h5.2
  obtain ⟨mI, emI⟩ : ∃ mI : Int, mI = (m : Int) := ⟨_, rfl⟩
  have em : (am_c 99).tdiv (am_c st) + 1 = mI := by rw [emI, l99, cs, Int.tdiv_eq_ediv_of_nonneg (by decide), hM]; omega
  have m2 : 2 ≤ m := by omega
  have m20 : m ≤ 20 := by omega
  have s1 : ((m : Int) - 1) * st ≤ 99 := by rw [hM, Int.toNat_of_nonneg (by omega)]; exact m3
  have cm : am_c mI = mI := am_cR (by omega) (by omega)
  have cn : am_c (ν 83 14) = ν 83 14 := am_cR (by omega) (by omega)
  have pb := fp_pw_b (m := mI) (by omega) (by omega) (ν 83 14).toNat (by omega)
  have cA : am_c (fp_pw mI (ν 83 14).toNat) = (fp_pw mI (ν 83 14).toNat) := am_cR (by omega) (by omega)
  have e4 : mv ν 0 4 = ν 83 14 := rfl
  have ub := fun c : Nat => fp_um_b (F := (mv ν)) (st := st) (m := m) (n := (ν 83 14).toNat) (c := c) hN.1 (by rw [e4]; omega)
  have lp64 : ∀ (fz : Nat) (c y r : Int) (μ : am_N) , (∀ a b, ¬(a = 89 ∧ b < (ν 83 14).toNat) → a ≠ 99 → a ≠ 100 → a ≠ 104 → ¬(a = 83 ∧ (b = 35 ∨ b = 36)) → μ a b = ν a b) → sx_3 μ 100 → 0 ≤ c → c ≤ (fp_pw mI (ν 83 14).toNat) → (c = 0 ∧ μ 83 35 = 0 ∧ μ 83 36 = 999) ∨ (1 ≤ c ∧ μ 83 35 = ((fq_m (fp_um (mv ν) st m (ν 83 14).toNat) (c.toNat - 1) : Nat) : Int) ∧ μ 83 36 = (fp_um (mv ν) st m (ν 83 14).toNat) (fq_m (fp_um (mv ν) st m (ν 83 14).toNat) (c.toNat - 1))) → c < (fp_pw mI (ν 83 14).toNat) → -1 ≤ r → r < ν 83 14 → y = ((fp_dq m c.toNat ((ν 83 14).toNat - 1 - r.toNat) : Nat) : Int) ∨ r = -1 → (∀ q : Nat, r < (q : Int) → q < (ν 83 14).toNat → μ 89 q = fp_sv st m c.toNat ((ν 83 14).toNat - 1 - q)) → (∀ (o5 o6 : Option am_V) (μ : am_N), (∀ a b, ¬(a = 89 ∧ b < (ν 83 14).toNat) → a ≠ 99 → a ≠ 100 → a ≠ 104 → ¬(a = 83 ∧ (b = 35 ∨ b = 36)) → μ a b = ν a b) → sx_3 μ 100 → (μ 83 35 = ((fq_m (fp_um (mv ν) st m (ν 83 14).toNat) c.toNat : Nat) : Int) ∧ μ 83 36 = (fp_um (mv ν) st m (ν 83 14).toNat) (fq_m (fp_um (mv ν) st m (ν 83 14).toNat) c.toNat)) → am_AW l 0 (fun _ => 0) 196 Q 46 [some (.inr (.inr 83)), some (.inl st), some (.inl mI), some (.inl (fp_pw mI (ν 83 14).toNat)), some (.inl (c + 1)), o5, o6] [] μ) → r + 1 < (fz : Int) → am_AW l 0 (fun _ => 0) 196 Q 64 [some (.inr (.inr 83)), some (.inl st), some (.inl mI), some (.inl (fp_pw mI (ν 83 14).toNat)), some (.inl c), some (.inl y), some (.inl r)] [] μ := by
    intro fz
    induction fz with
    | zero =>
      intro c y r μ hv0 hv1 hv2 hv3 hv4 hv5 hv6 hv7 hv8 hv9 hv10 hm
      exfalso
      omega
    | succ fz ih =>
      intro c y r μ hv0 hv1 hv2 hv3 hv4 hv5 hv6 hv7 hv8 hv9 hv10 hm
      have cr : am_c r = r := am_cR (by omega) (by omega)
      have er : (am_c r).toNat = r.toNat := by rw [cr]
      have cc : am_c c = c := am_cR (by omega) (by omega)
      have ec : ((c.toNat : Nat) : Int) = c := Int.toNat_of_nonneg hv2
      have n8 : μ 83 14 = ν 83 14 := hv0 83 14 (by omega) (by decide) (by decide) (by decide) (by omega)
      have dl := fp_dq_l m c.toNat ((ν 83 14).toNat - 1 - r.toNat)
      have cy := fun z : 0 ≤ r => (show am_c y = y by have h := hv8.resolve_right (by omega); exact am_cR (by omega) (by omega))
      have rem := fun z : 0 ≤ r => (show (am_c y).tmod (am_c mI) = ((fp_dq m c.toNat ((ν 83 14).toNat - 1 - r.toNat) % m : Nat) : Int) by rw [cy z, cm, emI, hv8.resolve_right (by omega)]; exact fp_rmN _ _)
      have quo := fun z : 0 ≤ r => (show (am_c y).tdiv (am_c mI) = ((fp_dq m c.toNat ((ν 83 14).toNat - 1 - r.toNat + 1) : Nat) : Int) by rw [cy z, cm, emI, hv8.resolve_right (by omega)]; exact fp_qmN _ _)
      have hmi : mi μ := mi_rc2 hm0 (fun a b q => hv0 a b (by omega) (by omega) (by omega) (by omega) (by omega)) hv1
      have hE := fun z : r = -1 => (show mv μ = fp_se (mv ν) st m (ν 83 14).toNat c.toNat by
        refine fp_ct_e (fun b hb => ?_) (fun a b q1 q2 hb => ?_)
        · exact (hv0 83 (10 + b) (by omega) (by omega) (by omega) (by omega) (by omega)).trans ((mv_0 (μ := ν) hb).symm.trans (if_neg (fun x => absurd x.1 (by decide))).symm)
        · obtain ⟨a, rfl⟩ : ∃ e, a = e + 1 := ⟨a - 1, by omega⟩
          by_cases d : a + 1 = 5 ∧ b < (ν 83 14).toNat
          · rw [if_pos d]
            obtain ⟨d1, d2⟩ := d
            obtain rfl : a = 4 := by omega
            exact hv9 b (by omega) d2
          · rw [if_neg d, mv_a (by omega) hb]
            exact hv0 (85 + a) b (by omega) (by omega) (by omega) (by omega) (by omega))
      have uc := ub c.toNat
      have cu : am_c ((fp_um (mv ν) st m (ν 83 14).toNat) c.toNat) = (fp_um (mv ν) st m (ν 83 14).toNat) c.toNat := am_cR (by omega) (by omega)
      have lb : 0 ≤ μ 83 36 ∧ μ 83 36 ≤ 999 := by rcases hv4 with z | z; (omega); (have x := ub (fq_m (fp_um (mv ν) st m (ν 83 14).toNat) (c.toNat - 1)); omega)
      have cl : am_c (μ 83 36) = μ 83 36 := am_cR (by omega) (by omega)
      have sv := fun a : Nat => fp_sv_b (st := st) (m := m) (c := c.toNat) (a := a) (by omega) (by omega) s1
      refine am_go (ct := fun pc => Nat.beq pc 64 || Nat.beq pc 46 || Nat.beq pc 12) am_oX7_findStarts 300 ?_
      conv => whnf
      repeat' first
        | (refine (?_ : am_wp _ _ _ _ _ _ _ _ _ _ _ _); conv => whnf)
        | (refine (?_ : am_sw _ _ _ _); conv => whnf)
        | refine And.intro trivial ?_
        | exact trivial
        | (have rM : r = -1 := (by (simp only [cr, l0] at *; first | done | omega)); have pE := hE rM; refine n_uneven hmi (by rw [pE]; exact fw_se hw sv) (fun μ2 h2 g2 => ?_); rw [pE, show fp_un (fp_se (mv ν) st m (ν 83 14).toNat c.toNat) = (fp_um (mv ν) st m (ν 83 14).toNat) c.toNat from rfl]; have k36 : μ2 83 36 = μ 83 36 := g2 83 36 (by decide) (by decide) (by decide); have k35 : μ2 83 35 = μ 83 35 := g2 83 35 (by decide) (by decide) (by decide); have fr2 : (∀ a b, ¬(a = 89 ∧ b < (ν 83 14).toNat) → a ≠ 99 → a ≠ 100 → a ≠ 104 → ¬(a = 83 ∧ (b = 35 ∨ b = 36)) → μ2 a b = ν a b) := (fun a b q1 q2 q3 q4 q5 => (g2 a b q2 q3 q4).trans (hv0 a b q1 q2 q3 q4 q5)); have p2 : sx_3 μ2 100 := (fun p hp => mi_or h2.1 p hp))
        | (refine hv10 _ _ _ ?_ ?_ ?_)
        | (rw [em]; refine lp12' 1 0 ?_ ?_ ?_)
        | refine ih _ _ _ _ ?_ ?_ ?_ ?_ ?_ ?_ ?_ ?_ ?_ ?_ ?_ ?_
        | refine And.intro (fun h => absurd h (by decide)) (fun _ => ?_)
        | refine And.intro (fun _ => ?_) (fun h => absurd (by decide) h)
        | refine And.intro (fun _ => ?_) (fun _ => ?_)
        | refine And.intro ?_ ?_
      all_goals (first | decide | omega | exact p2 | (rw [cm]; omega) | (rw [cr]; omega) | (intro a b q1 q2 q3 q4 q5; rw [am_uE (by omega), am_uE (by omega)]; exact fr2 a b q1 q2 q3 q4 q5) | exact fr2 | exact sx_3N (sx_3N p2 (by decide)) (by decide) | (have q := fq_m_u (f := (fp_um (mv ν) st m (ν 83 14).toNat)) hv2 hv4 (by (simp only [k36, cu, cl] at *; first | done | omega)); exact ⟨((am_upM (by decide)).trans (if_pos ⟨rfl, rfl⟩)).trans q.1, Eq.trans (if_pos ⟨rfl, rfl⟩) q.2⟩) | (have q := fq_m_k (f := (fp_um (mv ν) st m (ν 83 14).toNat)) hv2 hv4 (ub 0).2 (by (simp only [k36, cu, cl] at *; first | done | omega)); exact ⟨k35.trans q.1, k36.trans q.2⟩) | (have r0 : 0 ≤ r := (by (simp only [cr, l0] at *; first | done | omega)); first | (intro a b q1 q2 q3 q4 q5; rw [am_uE (by rw [er]; omega)]; exact hv0 a b q1 q2 q3 q4 q5) | (rw [am_upN (by decide), am_upN (by decide)]; exact hv4) | exact sx_3N hv1 (by decide) | (refine Or.inl ?_; rw [quo r0]; first | rw [show (ν 83 14).toNat - 1 - r.toNat + 1 = (ν 83 14).toNat - 1 - (r + -1).toNat by omega] | rw [show (ν 83 14).toNat - 1 - r.toNat + 1 = (ν 83 14).toNat - 1 - (r - 1).toNat by omega]) | exact Or.inr (by omega) | (intro q q1 q2; by_cases d : q = r.toNat; (rw [am_upS, if_pos ⟨rfl, by rw [er]; exact d⟩, rem r0, d]; rfl); (rw [am_upM (by rw [er]; exact d)]; exact hv9 q (by omega) q2))) | (trace_state; fail))
  have lp64' : ∀ (c y r : Int) (μ : am_N) , (∀ a b, ¬(a = 89 ∧ b < (ν 83 14).toNat) → a ≠ 99 → a ≠ 100 → a ≠ 104 → ¬(a = 83 ∧ (b = 35 ∨ b = 36)) → μ a b = ν a b) → sx_3 μ 100 → 0 ≤ c → c ≤ (fp_pw mI (ν 83 14).toNat) → (c = 0 ∧ μ 83 35 = 0 ∧ μ 83 36 = 999) ∨ (1 ≤ c ∧ μ 83 35 = ((fq_m (fp_um (mv ν) st m (ν 83 14).toNat) (c.toNat - 1) : Nat) : Int) ∧ μ 83 36 = (fp_um (mv ν) st m (ν 83 14).toNat) (fq_m (fp_um (mv ν) st m (ν 83 14).toNat) (c.toNat - 1))) → c < (fp_pw mI (ν 83 14).toNat) → -1 ≤ r → r < ν 83 14 → y = ((fp_dq m c.toNat ((ν 83 14).toNat - 1 - r.toNat) : Nat) : Int) ∨ r = -1 → (∀ q : Nat, r < (q : Int) → q < (ν 83 14).toNat → μ 89 q = fp_sv st m c.toNat ((ν 83 14).toNat - 1 - q)) → (∀ (o5 o6 : Option am_V) (μ : am_N), (∀ a b, ¬(a = 89 ∧ b < (ν 83 14).toNat) → a ≠ 99 → a ≠ 100 → a ≠ 104 → ¬(a = 83 ∧ (b = 35 ∨ b = 36)) → μ a b = ν a b) → sx_3 μ 100 → (μ 83 35 = ((fq_m (fp_um (mv ν) st m (ν 83 14).toNat) c.toNat : Nat) : Int) ∧ μ 83 36 = (fp_um (mv ν) st m (ν 83 14).toNat) (fq_m (fp_um (mv ν) st m (ν 83 14).toNat) c.toNat)) → am_AW l 0 (fun _ => 0) 196 Q 46 [some (.inr (.inr 83)), some (.inl st), some (.inl mI), some (.inl (fp_pw mI (ν 83 14).toNat)), some (.inl (c + 1)), o5, o6] [] μ) → am_AW l 0 (fun _ => 0) 196 Q 64 [some (.inr (.inr 83)), some (.inl st), some (.inl mI), some (.inl (fp_pw mI (ν 83 14).toNat)), some (.inl c), some (.inl y), some (.inl r)] [] μ := fun c y r μ hv0 hv1 hv2 hv3 hv4 hv5 hv6 hv7 hv8 hv9 hv10 => lp64 ((r + 1) + 1).toNat c y r μ hv0 hv1 hv2 hv3 hv4 hv5 hv6 hv7 hv8 hv9 hv10 (by omega)
  have lp46 : ∀ (fz : Nat) (c : Int) (o5 o6 : Option am_V) (μ : am_N) , (∀ a b, ¬(a = 89 ∧ b < (ν 83 14).toNat) → a ≠ 99 → a ≠ 100 → a ≠ 104 → ¬(a = 83 ∧ (b = 35 ∨ b = 36)) → μ a b = ν a b) → sx_3 μ 100 → 0 ≤ c → c ≤ (fp_pw mI (ν 83 14).toNat) → (c = 0 ∧ μ 83 35 = 0 ∧ μ 83 36 = 999) ∨ (1 ≤ c ∧ μ 83 35 = ((fq_m (fp_um (mv ν) st m (ν 83 14).toNat) (c.toNat - 1) : Nat) : Int) ∧ μ 83 36 = (fp_um (mv ν) st m (ν 83 14).toNat) (fq_m (fp_um (mv ν) st m (ν 83 14).toNat) (c.toNat - 1))) → (fp_pw mI (ν 83 14).toNat) - c < (fz : Int) → am_AW l 0 (fun _ => 0) 196 Q 46 [some (.inr (.inr 83)), some (.inl st), some (.inl mI), some (.inl (fp_pw mI (ν 83 14).toNat)), some (.inl c), o5, o6] [] μ := by
    intro fz
    induction fz with
    | zero =>
      intro c o5 o6 μ hv0 hv1 hv2 hv3 hv4 hm
      exfalso
      omega
    | succ fz ih =>
      intro c o5 o6 μ hv0 hv1 hv2 hv3 hv4 hm
      have cc : am_c c = c := am_cR (by omega) (by omega)
      have ec : ((c.toNat : Nat) : Int) = c := Int.toNat_of_nonneg hv2
      have n8 : μ 83 14 = ν 83 14 := hv0 83 14 (by omega) (by decide) (by decide) (by decide) (by omega)
      refine am_go (ct := fun pc => Nat.beq pc 64 || Nat.beq pc 46 || Nat.beq pc 12) am_oX7_findStarts 300 ?_
      conv => whnf
      repeat' first
        | (refine (?_ : am_wp _ _ _ _ _ _ _ _ _ _ _ _); conv => whnf)
        | (refine (?_ : am_sw _ _ _ _); conv => whnf)
        | refine And.intro trivial ?_
        | exact trivial
        | refine k _ hv0 hv1 ?_
        | (rw [em]; refine lp12' 1 0 ?_ ?_ ?_)
        | refine ih _ _ _ _ ?_ ?_ ?_ ?_ ?_ ?_
        | refine lp64' _ _ _ _ ?_ ?_ ?_ ?_ ?_ ?_ ?_ ?_ ?_ ?_ ?_
        | refine And.intro (fun h => absurd h (by decide)) (fun _ => ?_)
        | refine And.intro (fun _ => ?_) (fun h => absurd (by decide) h)
        | refine And.intro (fun _ => ?_) (fun _ => ?_)
        | refine And.intro ?_ ?_
      all_goals (first | decide | assumption | omega | ((simp only [cc, cA] at *; first | done | omega)) | (rw [n8]; omega) | (refine Or.inl ?_; rw [n8, show (ν 83 14).toNat - 1 - (ν 83 14 - 1).toNat = 0 by omega]; exact ec.symm) | (intro q q1 q2; rw [n8] at q1; exact absurd q1 (by omega)) | (intro o5' o6' μ' q0 q1 q2; refine ih _ _ _ _ ?_ ?_ ?_ ?_ ?_ ?_ <;> first | assumption | omega | ((simp only [cc, cA] at *; first | done | omega)) | (refine Or.inr ⟨by omega, ?_⟩; rw [show (c + 1).toNat - 1 = c.toNat by omega]; exact q2)) | (have x := hv4.resolve_left (by (simp only [cc, cA] at *; first | done | omega)); rw [x.2.1]; unfold fp_sb3; rw [← emI, show c.toNat - 1 = (fp_pw mI (ν 83 14).toNat).toNat - 1 by (simp only [cc, cA] at *; first | done | omega)]) | (trace_state; fail))
  have lp46' : ∀ (c : Int) (o5 o6 : Option am_V) (μ : am_N) , (∀ a b, ¬(a = 89 ∧ b < (ν 83 14).toNat) → a ≠ 99 → a ≠ 100 → a ≠ 104 → ¬(a = 83 ∧ (b = 35 ∨ b = 36)) → μ a b = ν a b) → sx_3 μ 100 → 0 ≤ c → c ≤ (fp_pw mI (ν 83 14).toNat) → (c = 0 ∧ μ 83 35 = 0 ∧ μ 83 36 = 999) ∨ (1 ≤ c ∧ μ 83 35 = ((fq_m (fp_um (mv ν) st m (ν 83 14).toNat) (c.toNat - 1) : Nat) : Int) ∧ μ 83 36 = (fp_um (mv ν) st m (ν 83 14).toNat) (fq_m (fp_um (mv ν) st m (ν 83 14).toNat) (c.toNat - 1))) → am_AW l 0 (fun _ => 0) 196 Q 46 [some (.inr (.inr 83)), some (.inl st), some (.inl mI), some (.inl (fp_pw mI (ν 83 14).toNat)), some (.inl c), o5, o6] [] μ := fun c o5 o6 μ hv0 hv1 hv2 hv3 hv4 => lp46 (((fp_pw mI (ν 83 14).toNat) - c) + 1).toNat c o5 o6 μ hv0 hv1 hv2 hv3 hv4 (by omega)
  have lp12 : ∀ (fz : Nat) (x r : Int) , 0 ≤ r → r ≤ ν 83 14 → x = fp_pw mI r.toNat → ν 83 14 - r < (fz : Int) → am_AW l 0 (fun _ => 0) 196 Q 12 [some (.inr (.inr 83)), some (.inl st), some (.inl mI), some (.inl x), some (.inl r), none, none] [] ν := by
    intro fz
    induction fz with
    | zero =>
      intro x r  hv0 hv1 hv2 hm
      exfalso
      omega
    | succ fz ih =>
      intro x r  hv0 hv1 hv2 hm
      have cr : am_c r = r := am_cR (by omega) (by omega)
      refine am_go (ct := fun pc => Nat.beq pc 64 || Nat.beq pc 46 || Nat.beq pc 12) am_oX7_findStarts 300 ?_
      conv => whnf
      repeat' first
        | (refine (?_ : am_wp _ _ _ _ _ _ _ _ _ _ _ _); conv => whnf)
        | (refine (?_ : am_sw _ _ _ _); conv => whnf)
        | refine And.intro trivial ?_
        | exact trivial
        | (have rE : r.toNat = (ν 83 14).toNat := (by (simp only [cr, cn] at *; first | done | omega)); rw [hv2, rE]; refine lp46' 0 _ _ _ ?_ ?_ ?_ ?_ ?_)
        | (rw [em]; refine lp12' 1 0 ?_ ?_ ?_)
        | refine ih _ _  ?_ ?_ ?_ ?_
        | refine lp46' _ _ _ _ ?_ ?_ ?_ ?_ ?_
        | refine lp64' _ _ _ _ ?_ ?_ ?_ ?_ ?_ ?_ ?_ ?_ ?_ ?_ ?_
        | refine And.intro (fun h => absurd h (by decide)) (fun _ => ?_)
        | refine And.intro (fun _ => ?_) (fun h => absurd (by decide) h)
        | refine And.intro (fun _ => ?_) (fun _ => ?_)
        | refine And.intro ?_ ?_
      all_goals (first | decide | assumption | omega | ((simp only [cr, cn] at *; first | done | omega)) | (rw [show (r + 1).toNat = r.toNat + 1 by omega, hv2]; rfl) | (intro a b q1 q2 q3 q4 q5; rw [am_uE (by omega), am_uE (by omega)]) | exact sx_3N (sx_3N (fun p hp => mi_or hm0 p hp) (by decide)) (by decide) | exact Or.inl ⟨rfl, rfl, rfl⟩ | (trace_state; fail))
  have lp12' : ∀ (x r : Int) , 0 ≤ r → r ≤ ν 83 14 → x = fp_pw mI r.toNat → am_AW l 0 (fun _ => 0) 196 Q 12 [some (.inr (.inr 83)), some (.inl st), some (.inl mI), some (.inl x), some (.inl r), none, none] [] ν := fun x r  hv0 hv1 hv2 => lp12 ((ν 83 14 - r) + 1).toNat x r  hv0 hv1 hv2 (by omega)
  refine am_go (ct := fun pc => Nat.beq pc 64 || Nat.beq pc 46 || Nat.beq pc 12) am_oX7_findStarts 300 ?_
  conv => whnf
  repeat' first
    | (refine (?_ : am_wp _ _ _ _ _ _ _ _ _ _ _ _); conv => whnf)
    | (refine (?_ : am_sw _ _ _ _); conv => whnf)
    | refine And.intro trivial ?_
    | exact trivial
    | (rw [em]; refine lp12' 1 0 ?_ ?_ ?_)
    | refine lp12' _ _  ?_ ?_ ?_
    | refine lp46' _ _ _ _ ?_ ?_ ?_ ?_ ?_
    | refine lp64' _ _ _ _ ?_ ?_ ?_ ?_ ?_ ?_ ?_ ?_ ?_ ?_ ?_
    | refine And.intro (fun h => absurd h (by decide)) (fun _ => ?_)
    | refine And.intro (fun _ => ?_) (fun h => absurd (by decide) h)
    | refine And.intro (fun _ => ?_) (fun _ => ?_)
    | refine And.intro ?_ ?_
  all_goals (first | decide | assumption | omega | rfl | (rw [cs]; omega) | (trace_state; fail))
theorem n_starts {l : Launch} {ν : am_N} {Q : Option am_V → am_N → Prop} (st i : Int) (cs : am_c st = st) (ci : am_c i = i) (hm : mi ν) (hw : fp_fw 999 (mv ν)) (k : ∀ μ' : am_N, gm mQ ν μ' → Q (some (.inl (fp_str (mv ν) st i))) μ') : am_Does l 197 [.inr (.inr 83), .inl st, .inl i] ν Q := by
  refine am_Does_of (Nat.le_of_ble_eq_true rfl) (Nat.le_of_ble_eq_true rfl) (Nat.le_of_ble_eq_true rfl) ?_
  have l0 : am_c 0 = 0 := rfl
  have l1 : am_c 1 = 1 := rfl
  have l2 : am_c 2 = 2 := rfl
  have l3 : am_c 3 = 3 := rfl
  have l5 : am_c 5 = 5 := rfl
  have l20 : am_c 20 = 20 := rfl
  have l50 : am_c 50 = 50 := rfl
  have l99 : am_c 99 = 99 := rfl
  have m1' : am_c (-1) = -1 := rfl
  have m2' : am_c (-2) = -2 := rfl
  have m3' : am_c (-3) = -3 := rfl
  have m4' : am_c (-4) = -4 := rfl
  have m6' : am_c (-6) = -6 := rfl
  have m9' : am_c (-9) = -9 := rfl
  have hm0 := hm
  obtain ⟨hf, -, -, -, -, -, hx⟩ := fw_M hw (by decide)
  have f0 := hf.1.1
  have f1 := hf.1.2
  have e4 : mv ν 0 4 = ν 83 14 := rfl
  have cn : am_c (ν 83 14) = ν 83 14 := am_cR (by omega) (by omega)
  have kk := fun (x : Int) (μ' : am_N) (h : gm mQ ν μ') (e : x = fp_str (mv ν) st i) => am_qe (k μ' h) e
  clear k
  have lp104 : ∀ (fz : Nat) (y r M : Int) (μ : am_N) , gm mQ ν μ → y = ((fp_dq (99 / st + 1).toNat (fp_sb3 (mv ν) st (99 / st + 1).toNat (ν 83 14).toNat) ((ν 83 14).toNat - 1 - r.toNat) : Nat) : Int) → i ≤ r → r < ν 83 14 → (5 ≤ st ∧ st ≤ 50) → 0 ≤ i → (1 ≤ ν 83 14 ∧ ν 83 14 ≤ 3) → M = (((99 / st + 1).toNat : Nat) : Int) → r - i < (fz : Int) → am_AW l 0 (fun _ => 0) 197 Q 104 [some (.inr (.inr 83)), some (.inl st), some (.inl i), some (.inl 0), some (.inl M), some (.inl y), some (.inl r)] [] μ := by
    intro fz
    induction fz with
    | zero =>
      intro y r M μ hv0 hv1 hv2 hv3 hv4 hv5 hv6 hv7 hm
      exfalso
      omega
    | succ fz ih =>
      intro y r M μ hv0 hv1 hv2 hv3 hv4 hv5 hv6 hv7 hm
      have cr : am_c r = r := am_cR (by omega) (by omega)
      obtain ⟨m1, m2, m3⟩ := fp_stm hv4.1 hv4.2
      have pb := fp_pw_b (m := (((99 / st + 1).toNat : Nat) : Int)) (by omega) (by omega) (ν 83 14).toNat (by omega)
      have bl := fq_m_l (fp_um (mv ν) st (99 / st + 1).toNat (ν 83 14).toNat) ((fp_pw (((99 / st + 1).toNat : Nat) : Int) (ν 83 14).toNat).toNat - 1)
      have bl2 : fp_sb3 (mv ν) st (99 / st + 1).toNat (ν 83 14).toNat ≤ 8000 := by unfold fp_sb3; omega
      have dl := fp_dq_l (99 / st + 1).toNat (fp_sb3 (mv ν) st (99 / st + 1).toNat (ν 83 14).toNat) ((ν 83 14).toNat - 1 - r.toNat)
      have cy : am_c y = y := am_cR (by omega) (by omega)
      have cm : am_c M = M := am_cR (by omega) (by omega)
      have rem : (am_c y).tmod (am_c M) = ((fp_dq (99 / st + 1).toNat (fp_sb3 (mv ν) st (99 / st + 1).toNat (ν 83 14).toNat) ((ν 83 14).toNat - 1 - r.toNat) % (99 / st + 1).toNat : Nat) : Int) := by rw [cy, cm, hv1, hv7]; exact fp_rmN _ _
      have quo : (am_c y).tdiv (am_c M) = ((fp_dq (99 / st + 1).toNat (fp_sb3 (mv ν) st (99 / st + 1).toNat (ν 83 14).toNat) ((ν 83 14).toNat - 1 - r.toNat + 1) : Nat) : Int) := by rw [cy, cm, hv1, hv7]; exact fp_qmN _ _
      refine am_go (ct := fun pc => Nat.beq pc 104) am_oX7_starts 300 ?_
      conv => whnf
      repeat' first
        | (refine (?_ : am_wp _ _ _ _ _ _ _ _ _ _ _ _); conv => whnf)
        | (refine (?_ : am_sw _ _ _ _); conv => whnf)
        | refine And.intro trivial ?_
        | exact trivial
        | (refine (?_ : gm _ _ _); (first | decide | assumption | omega | (rw [cm]; omega) | ((simp only [cr, ci] at *; first | done | omega)) | (rw [quo, show (ν 83 14).toNat - 1 - r.toNat + 1 = (ν 83 14).toNat - 1 - (r + -1).toNat by omega]) | (rw [quo, show (ν 83 14).toNat - 1 - r.toNat + 1 = (ν 83 14).toNat - 1 - (r - 1).toNat by omega]) | (unfold fp_str; rw [e4, if_neg (by omega), if_neg (by omega), if_neg (by omega), if_neg (by omega), rE]; rfl) | (trace_state; fail)))
        | (have rE : r = i := (by (simp only [cr, ci] at *; first | done | omega)); rw [rem]; refine kk _ _ hv0 ?_)
        | refine x_isIn (ν 83 14) _ _ _ rfl cn ?_ ?_ (fun y0 y1 => ?_) (fun y => ?_)
        | refine x_no _ ?_ (fun μr fr => ?_)
        | (have h5 : 5 ≤ st ∧ st ≤ 50 := (by (simp only [cs, l5, l50] at *; first | done | omega)); have hi0 : 0 ≤ i := (by (simp only [ci, l0] at *; first | done | omega)); have hin : i < ν 83 14 := (by (simp only [ci, cn] at *; first | done | omega)); have em : (am_c 99).tdiv (am_c st) + 1 = (((99 / st + 1).toNat : Nat) : Int) := (by obtain ⟨m1, m2, m3⟩ := fp_stm h5.1 h5.2; rw [l99, cs, Int.tdiv_eq_ediv_of_nonneg (by decide)]; omega); refine m_keep1 (fun μ1 u1 _ _ _ => ?_); have hD : MD mQ ν μ1 := md_start (gm_rf hm0) u1; have p1 : mv μ1 = (mv ν) := mv_keep (fun a b q => u1.2 a b (by omega) (by omega)); have n1 : μ1 83 14 = ν 83 14 := u1.2 83 14 (by omega) (by omega))
        | (refine n_findStarts st (99 / st + 1).toNat cs (md_i hD) (by rw [p1]; exact hw) (by rw [n1]; exact ⟨y0, y1⟩) h5 rfl (fun μ2 f2 p2 b2 => ?_); rw [p1, n1] at b2; have hG2 : gm mM μ1 μ2 := gm_fs (md_i hD) (fun a b q1 q2 q3 q4 q5 => f2 a b (fun z => q1 z.1) q2 q3 q4 q5) p2)
        | (refine m_come1 (fun μ3 u3 _ _ _ => ?_); have hG : gm mQ ν μ3 := md_back (md_tr hD hG2 (fun _ _ q => q)) u3 (fun _ _ q => q); have b3 : μ3 83 35 = ((fp_sb3 (mv ν) st (99 / st + 1).toNat (ν 83 14).toNat : Nat) : Int) := (u3.2 83 35 rfl (by omega)).trans b2; have n3 : μ3 83 14 = ν 83 14 := hG.2 83 14 rfl)
        | (rw [b3, n3]; refine lp104' _ _ _ _ hG ?_ ?_ ?_ h5 hi0 ⟨y0, y1⟩ em)
        | refine kk _ _ (gm_rfQ hm0) ?_
        | refine kk _ _ (gm_84 (fun _ => rfl) hm0 fr) ?_
        | refine And.intro (fun h => absurd h (by omega)) (fun _ => ?_)
        | refine And.intro (fun _ => ?_) (fun h => absurd h (by omega))
        | refine ih _ _ _ _ ?_ ?_ ?_ ?_ ?_ ?_ ?_ ?_ ?_
        | refine And.intro (fun h => absurd h (by decide)) (fun _ => ?_)
        | refine And.intro (fun _ => ?_) (fun h => absurd (by decide) h)
        | refine And.intro (fun _ => ?_) (fun _ => ?_)
        | refine And.intro ?_ ?_
      all_goals (first | decide | assumption | omega | (rw [cm]; omega) | ((simp only [cr, ci] at *; first | done | omega)) | (rw [quo, show (ν 83 14).toNat - 1 - r.toNat + 1 = (ν 83 14).toNat - 1 - (r + -1).toNat by omega]) | (rw [quo, show (ν 83 14).toNat - 1 - r.toNat + 1 = (ν 83 14).toNat - 1 - (r - 1).toNat by omega]) | (unfold fp_str; rw [e4, if_neg (by omega), if_neg (by omega), if_neg (by omega), if_neg (by omega), rE]; rfl) | (trace_state; fail))
  have lp104' : ∀ (y r M : Int) (μ : am_N) , gm mQ ν μ → y = ((fp_dq (99 / st + 1).toNat (fp_sb3 (mv ν) st (99 / st + 1).toNat (ν 83 14).toNat) ((ν 83 14).toNat - 1 - r.toNat) : Nat) : Int) → i ≤ r → r < ν 83 14 → (5 ≤ st ∧ st ≤ 50) → 0 ≤ i → (1 ≤ ν 83 14 ∧ ν 83 14 ≤ 3) → M = (((99 / st + 1).toNat : Nat) : Int) → am_AW l 0 (fun _ => 0) 197 Q 104 [some (.inr (.inr 83)), some (.inl st), some (.inl i), some (.inl 0), some (.inl M), some (.inl y), some (.inl r)] [] μ := fun y r M μ hv0 hv1 hv2 hv3 hv4 hv5 hv6 hv7 => lp104 ((r - i) + 1).toNat y r M μ hv0 hv1 hv2 hv3 hv4 hv5 hv6 hv7 (by omega)
  refine am_go (ct := fun pc => Nat.beq pc 104) am_oX7_starts 300 ?_
  conv => whnf
  repeat' first
    | (refine (?_ : am_wp _ _ _ _ _ _ _ _ _ _ _ _); conv => whnf)
    | (refine (?_ : am_sw _ _ _ _); conv => whnf)
    | refine And.intro trivial ?_
    | exact trivial
    | (refine (?_ : gm _ _ _); (first | decide | assumption | omega | rfl | ((simp only [cs, ci, cn, l0, l5, l50] at *; first | done | omega)) | (rw [cs]; omega) | (rw [show (ν 83 14).toNat - 1 - (ν 83 14 - 1).toNat = 0 by omega]; rfl) | (unfold fp_str; rw [if_pos (by (simp only [cs, ci, l0, l5] at *; first | done | omega))]) | (unfold fp_str; rw [if_neg (by (simp only [cs, ci, l0, l5] at *; first | done | omega)), if_pos (by (simp only [cs, l50] at *; first | done | omega))]) | (unfold fp_str; rw [e4, if_neg (by (simp only [cs, ci, l0, l5] at *; first | done | omega)), if_neg (by (simp only [cs, l50] at *; first | done | omega)), if_pos (by omega)]) | (unfold fp_str; rw [e4, if_neg (by (simp only [cs, ci, l0, l5] at *; first | done | omega)), if_neg (by (simp only [cs, l50] at *; first | done | omega)), if_neg (by omega), if_pos (by (simp only [cn, ci] at *; first | done | omega))]) | (trace_state; fail)))
    | refine x_isIn (ν 83 14) _ _ _ rfl cn ?_ ?_ (fun y0 y1 => ?_) (fun y => ?_)
    | refine x_no _ ?_ (fun μr fr => ?_)
    | (have h5 : 5 ≤ st ∧ st ≤ 50 := (by (simp only [cs, l5, l50] at *; first | done | omega)); have hi0 : 0 ≤ i := (by (simp only [ci, l0] at *; first | done | omega)); have hin : i < ν 83 14 := (by (simp only [ci, cn] at *; first | done | omega)); have em : (am_c 99).tdiv (am_c st) + 1 = (((99 / st + 1).toNat : Nat) : Int) := (by obtain ⟨m1, m2, m3⟩ := fp_stm h5.1 h5.2; rw [l99, cs, Int.tdiv_eq_ediv_of_nonneg (by decide)]; omega); refine m_keep1 (fun μ1 u1 _ _ _ => ?_); have hD : MD mQ ν μ1 := md_start (gm_rf hm0) u1; have p1 : mv μ1 = (mv ν) := mv_keep (fun a b q => u1.2 a b (by omega) (by omega)); have n1 : μ1 83 14 = ν 83 14 := u1.2 83 14 (by omega) (by omega))
    | (refine n_findStarts st (99 / st + 1).toNat cs (md_i hD) (by rw [p1]; exact hw) (by rw [n1]; exact ⟨y0, y1⟩) h5 rfl (fun μ2 f2 p2 b2 => ?_); rw [p1, n1] at b2; have hG2 : gm mM μ1 μ2 := gm_fs (md_i hD) (fun a b q1 q2 q3 q4 q5 => f2 a b (fun z => q1 z.1) q2 q3 q4 q5) p2)
    | (refine m_come1 (fun μ3 u3 _ _ _ => ?_); have hG : gm mQ ν μ3 := md_back (md_tr hD hG2 (fun _ _ q => q)) u3 (fun _ _ q => q); have b3 : μ3 83 35 = ((fp_sb3 (mv ν) st (99 / st + 1).toNat (ν 83 14).toNat : Nat) : Int) := (u3.2 83 35 rfl (by omega)).trans b2; have n3 : μ3 83 14 = ν 83 14 := hG.2 83 14 rfl)
    | (rw [b3, n3]; refine lp104' _ _ _ _ hG ?_ ?_ ?_ h5 hi0 ⟨y0, y1⟩ em)
    | refine kk _ _ (gm_rfQ hm0) ?_
    | refine kk _ _ (gm_84 (fun _ => rfl) hm0 fr) ?_
    | refine And.intro (fun h => absurd h (by omega)) (fun _ => ?_)
    | refine And.intro (fun _ => ?_) (fun h => absurd h (by omega))
    | refine lp104' _ _ _ _ ?_ ?_ ?_ ?_ ?_ ?_ ?_ ?_
    | refine And.intro (fun h => absurd h (by decide)) (fun _ => ?_)
    | refine And.intro (fun _ => ?_) (fun h => absurd (by decide) h)
    | refine And.intro (fun _ => ?_) (fun _ => ?_)
    | refine And.intro ?_ ?_
  all_goals (first | decide | assumption | omega | rfl | ((simp only [cs, ci, cn, l0, l5, l50] at *; first | done | omega)) | (rw [cs]; omega) | (rw [show (ν 83 14).toNat - 1 - (ν 83 14 - 1).toNat = 0 by omega]; rfl) | (unfold fp_str; rw [if_pos (by (simp only [cs, ci, l0, l5] at *; first | done | omega))]) | (unfold fp_str; rw [if_neg (by (simp only [cs, ci, l0, l5] at *; first | done | omega)), if_pos (by (simp only [cs, l50] at *; first | done | omega))]) | (unfold fp_str; rw [e4, if_neg (by (simp only [cs, ci, l0, l5] at *; first | done | omega)), if_neg (by (simp only [cs, l50] at *; first | done | omega)), if_pos (by omega)]) | (unfold fp_str; rw [e4, if_neg (by (simp only [cs, ci, l0, l5] at *; first | done | omega)), if_neg (by (simp only [cs, l50] at *; first | done | omega)), if_neg (by omega), if_pos (by (simp only [cn, ci] at *; first | done | omega))]) | (trace_state; fail))
