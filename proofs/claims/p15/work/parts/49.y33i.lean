theorem mi_rc2 {ν μ : am_N} (h : mi ν) (e : ∀ a b, (a = 83 ∧ b ≠ 35 ∧ b ≠ 36) ∨ a = 98 → μ a b = ν a b) (p : sx_3 μ 100) : mi μ := by
  unfold mi at h ⊢
  rw [e 83 14 (by omega), e 83 15 (by omega), e 83 16 (by omega), e 83 21 (by omega), e 83 33 (by omega), e 83 40 (by omega), e 83 42 (by omega), e 98 44 (by omega), e 98 38 (by omega), e 98 39 (by omega)]
  exact ⟨h.1, h.2.1, h.2.2.1, h.2.2.2.1, h.2.2.2.2.1, h.2.2.2.2.2.1, h.2.2.2.2.2.2.1, h.2.2.2.2.2.2.2.1, h.2.2.2.2.2.2.2.2.1, h.2.2.2.2.2.2.2.2.2.1, p⟩
theorem gm_fs {ν μ : am_N} (h : mi ν) (f : ∀ a b, a ≠ 89 → a ≠ 99 → a ≠ 100 → a ≠ 104 → ¬(a = 83 ∧ (b = 35 ∨ b = 36)) → μ a b = ν a b) (p : sx_3 μ 100) : gm mM ν μ := by
  refine ⟨mi_rc2 h (fun a b q => f a b (by omega) (by omega) (by omega) (by omega) (by omega)) p, fun a b q => f a b (fun z => by rw [z] at q; cases q) (fun z => by rw [z] at q; cases q) (fun z => by rw [z] at q; cases q) (fun z => by rw [z] at q; cases q) (fun z => ?_)⟩
  obtain ⟨z1, z2⟩ := z
  rcases z2 with z2 | z2 <;> (rw [z1, z2] at q; cases q)
theorem gm_rfQ {ν : am_N} (h : mi ν) : gm mQ ν ν := gm_rf h
theorem n_findStarts {l : Launch} {ν : am_N} {Q : Option am_V → am_N → Prop} (st : Int) (m : Nat) (cs : am_c st = st) (hm : mi ν) (hw : fp_fw 999 (mv ν)) (hN : 1 ≤ ν 83 14 ∧ ν 83 14 ≤ 3) (h5 : 5 ≤ st ∧ st ≤ 50) (hM : m = (99 / st + 1).toNat) (k : ∀ μ' : am_N, (∀ a b, ¬(a = 89 ∧ b < (ν 83 14).toNat) → a ≠ 99 → a ≠ 100 → a ≠ 104 → ¬(a = 83 ∧ (b = 35 ∨ b = 36)) → μ' a b = ν a b) → sx_3 μ' 100 → μ' 83 35 = ((fp_sb3 (mv ν) st m (ν 83 14).toNat : Nat) : Int) → Q none μ') : am_Does l 196 [.inr (.inr 83), .inl st] ν Q := by
  refine am_Does_of (Nat.le_of_ble_eq_true rfl) (Nat.le_of_ble_eq_true rfl) (Nat.le_of_ble_eq_true rfl) ?_
  have l0 : am_c 0 = 0 := rfl
  have l1 : am_c 1 = 1 := rfl
  have l2 : am_c 2 = 2 := rfl
  have l3 : am_c 3 = 3 := rfl
  have l5 : am_c 5 = 5 := rfl
  have l20 : am_c 20 = 20 := rfl
  have l50 : am_c 50 = 50 := rfl
  have l99 : am_c 99 = 99 := rfl
  have hm0 := hm
  obtain ⟨m1, mm2, m3⟩ := fp_stm h5.1 h5.2
  obtain ⟨mI, emI⟩ : ∃ mI : Int, mI = (m : Int) := ⟨_, rfl⟩
  have em : (am_c 99).tdiv (am_c st) + 1 = mI := by rw [emI, l99, cs, Int.tdiv_eq_ediv_of_nonneg (by decide), hM]; omega
  have m2 : 2 ≤ m := by omega
  have m20 : m ≤ 20 := by omega
  have s1 : ((m : Int) - 1) * st ≤ 99 := by rw [hM, Int.toNat_of_nonneg (by omega)]; exact m3
  have cm : am_c mI = mI := am_cR (by omega) (by omega)
  have cn : am_c (ν 83 14) = ν 83 14 := am_cR (by omega) (by omega)
  have pb := fp_pw_b (m := mI) (by omega) (by omega) (ν 83 14).toNat (by omega)
  have cA : am_c (fp_pw mI (ν 83 14).toNat) = (fp_pw mI (ν 83 14).toNat) := am_cR (by omega) (by omega)
  have e4 : mv ν 0 4 = ν 83 14 := rfl
  have ub := fun c : Nat => fp_um_b (F := (mv ν)) (st := st) (m := m) (n := (ν 83 14).toNat) (c := c) hN.1 (by rw [e4]; omega)
  have lp64 : ∀ (fz : Nat) (c y r : Int) (μ : am_N) , (∀ a b, ¬(a = 89 ∧ b < (ν 83 14).toNat) → a ≠ 99 → a ≠ 100 → a ≠ 104 → ¬(a = 83 ∧ (b = 35 ∨ b = 36)) → μ a b = ν a b) → sx_3 μ 100 → 0 ≤ c → c ≤ (fp_pw mI (ν 83 14).toNat) → (c = 0 ∧ μ 83 35 = 0 ∧ μ 83 36 = 999) ∨ (1 ≤ c ∧ μ 83 35 = ((fq_m (fp_um (mv ν) st m (ν 83 14).toNat) (c.toNat - 1) : Nat) : Int) ∧ μ 83 36 = (fp_um (mv ν) st m (ν 83 14).toNat) (fq_m (fp_um (mv ν) st m (ν 83 14).toNat) (c.toNat - 1))) → c < (fp_pw mI (ν 83 14).toNat) → -1 ≤ r → r < ν 83 14 → y = ((fp_dq m c.toNat ((ν 83 14).toNat - 1 - r.toNat) : Nat) : Int) ∨ r = -1 → (∀ q : Nat, r < (q : Int) → q < (ν 83 14).toNat → μ 89 q = fp_sv st m c.toNat ((ν 83 14).toNat - 1 - q)) → (∀ (o5 o6 : Option am_V) (μ : am_N), (∀ a b, ¬(a = 89 ∧ b < (ν 83 14).toNat) → a ≠ 99 → a ≠ 100 → a ≠ 104 → ¬(a = 83 ∧ (b = 35 ∨ b = 36)) → μ a b = ν a b) → sx_3 μ 100 → (μ 83 35 = ((fq_m (fp_um (mv ν) st m (ν 83 14).toNat) c.toNat : Nat) : Int) ∧ μ 83 36 = (fp_um (mv ν) st m (ν 83 14).toNat) (fq_m (fp_um (mv ν) st m (ν 83 14).toNat) c.toNat)) → am_AW l 0 (fun _ => 0) 196 Q 46 [some (.inr (.inr 83)), some (.inl st), some (.inl mI), some (.inl (fp_pw mI (ν 83 14).toNat)), some (.inl (c + 1)), o5, o6] [] μ) → r + 1 < (fz : Int) → am_AW l 0 (fun _ => 0) 196 Q 64 [some (.inr (.inr 83)), some (.inl st), some (.inl mI), some (.inl (fp_pw mI (ν 83 14).toNat)), some (.inl c), some (.inl y), some (.inl r)] [] μ := by
    intro fz
    induction fz with
    | zero =>
      intro c y r μ hv0 hv1 hv2 hv3 hv4 hv5 hv6 hv7 hv8 hv9 hv10 hm
      exfalso
      omega
    | succ fz ih =>
      intro c y r μ hv0 hv1 hv2 hv3 hv4 hv5 hv6 hv7 hv8 hv9 hv10 hm
      have cr : am_c r = r := am_cR (by omega) (by omega)
      have er : (am_c r).toNat = r.toNat := by rw [cr]
      have cc : am_c c = c := am_cR (by omega) (by omega)
      have ec : ((c.toNat : Nat) : Int) = c := Int.toNat_of_nonneg hv2
      have n8 : μ 83 14 = ν 83 14 := hv0 83 14 (by omega) (by decide) (by decide) (by decide) (by omega)
      have dl := fp_dq_l m c.toNat ((ν 83 14).toNat - 1 - r.toNat)
      have cy := fun z : 0 ≤ r => (show am_c y = y by have h := hv8.resolve_right (by omega); exact am_cR (by omega) (by omega))
      have rem := fun z : 0 ≤ r => (show (am_c y).tmod (am_c mI) = ((fp_dq m c.toNat ((ν 83 14).toNat - 1 - r.toNat) % m : Nat) : Int) by rw [cy z, cm, emI, hv8.resolve_right (by omega)]; exact fp_rmN _ _)
      have quo := fun z : 0 ≤ r => (show (am_c y).tdiv (am_c mI) = ((fp_dq m c.toNat ((ν 83 14).toNat - 1 - r.toNat + 1) : Nat) : Int) by rw [cy z, cm, emI, hv8.resolve_right (by omega)]; exact fp_qmN _ _)
      have hmi : mi μ := mi_rc2 hm0 (fun a b q => hv0 a b (by omega) (by omega) (by omega) (by omega) (by omega)) hv1
      have hE := fun z : r = -1 => (show mv μ = fp_se (mv ν) st m (ν 83 14).toNat c.toNat by
        refine fp_ct_e (fun b hb => ?_) (fun a b q1 q2 hb => ?_)
        · exact (hv0 83 (10 + b) (by omega) (by omega) (by omega) (by omega) (by omega)).trans ((mv_0 (μ := ν) hb).symm.trans (if_neg (fun x => absurd x.1 (by decide))).symm)
        · obtain ⟨a, rfl⟩ : ∃ e, a = e + 1 := ⟨a - 1, by omega⟩
          by_cases d : a + 1 = 5 ∧ b < (ν 83 14).toNat
          · rw [if_pos d]
            obtain ⟨d1, d2⟩ := d
            obtain rfl : a = 4 := by omega
            exact hv9 b (by omega) d2
          · rw [if_neg d, mv_a (by omega) hb]
            exact hv0 (85 + a) b (by omega) (by omega) (by omega) (by omega) (by omega))
      have uc := ub c.toNat
      have cu : am_c ((fp_um (mv ν) st m (ν 83 14).toNat) c.toNat) = (fp_um (mv ν) st m (ν 83 14).toNat) c.toNat := am_cR (by omega) (by omega)
      have lb : 0 ≤ μ 83 36 ∧ μ 83 36 ≤ 999 := by rcases hv4 with z | z; (omega); (have x := ub (fq_m (fp_um (mv ν) st m (ν 83 14).toNat) (c.toNat - 1)); omega)
      have cl : am_c (μ 83 36) = μ 83 36 := am_cR (by omega) (by omega)
      have sv := fun a : Nat => fp_sv_b (st := st) (m := m) (c := c.toNat) (a := a) (by omega) (by omega) s1
      refine am_go (ct := fun pc => Nat.beq pc 64 || Nat.beq pc 46 || Nat.beq pc 12) am_oX7_findStarts 300 ?_
      conv => whnf
      repeat' first
        | (refine (?_ : am_wp _ _ _ _ _ _ _ _ _ _ _ _); conv => whnf)
        | (refine (?_ : am_sw _ _ _ _); conv => whnf)
        | refine And.intro trivial ?_
        | exact trivial
        | (have rM : r = -1 := (by (simp only [cr, l0] at *; first | done | omega)); have pE := hE rM; refine n_uneven hmi (by rw [pE]; exact fw_se hw sv) (fun μ2 h2 g2 => ?_); rw [pE, show fp_un (fp_se (mv ν) st m (ν 83 14).toNat c.toNat) = (fp_um (mv ν) st m (ν 83 14).toNat) c.toNat from rfl]; have k36 : μ2 83 36 = μ 83 36 := g2 83 36 (by decide) (by decide) (by decide); have k35 : μ2 83 35 = μ 83 35 := g2 83 35 (by decide) (by decide) (by decide); have fr2 : (∀ a b, ¬(a = 89 ∧ b < (ν 83 14).toNat) → a ≠ 99 → a ≠ 100 → a ≠ 104 → ¬(a = 83 ∧ (b = 35 ∨ b = 36)) → μ2 a b = ν a b) := (fun a b q1 q2 q3 q4 q5 => (g2 a b q2 q3 q4).trans (hv0 a b q1 q2 q3 q4 q5)); have p2 : sx_3 μ2 100 := (fun p hp => mi_or h2.1 p hp))
        | (refine hv10 _ _ _ ?_ ?_ (by first | (have q := fq_m_u (f := (fp_um (mv ν) st m (ν 83 14).toNat)) hv2 hv4 (by (simp only [k36, cu, cl] at *; first | done | omega)); exact ⟨by rw [am_upS, if_neg (fun z => absurd z.2 (by decide)), am_upS, if_pos ⟨rfl, rfl⟩]; exact q.1, by rw [am_upS, if_pos ⟨rfl, rfl⟩]; exact q.2⟩) | (have q := fq_m_k (f := (fp_um (mv ν) st m (ν 83 14).toNat)) hv2 hv4 (ub 0).2 (by (simp only [k36, cu, cl] at *; first | done | omega)); exact ⟨k35.trans q.1, k36.trans q.2⟩)))
        | (rw [em]; refine lp12' 1 0 ?_ ?_ ?_)
        | refine ih _ _ _ _ ?_ ?_ ?_ ?_ ?_ ?_ ?_ ?_ ?_ ?_ ?_ ?_
        | refine And.intro (fun h => absurd h (by decide)) (fun _ => ?_)
        | refine And.intro (fun _ => ?_) (fun h => absurd (by decide) h)
        | refine And.intro (fun _ => ?_) (fun _ => ?_)
        | refine And.intro ?_ ?_
      all_goals (first | decide | omega | exact p2 | (rw [cm]; omega) | (rw [cr]; omega) | (intro a b q1 q2 q3 q4 q5; rw [am_uE (by omega), am_uE (by omega)]; exact fr2 a b q1 q2 q3 q4 q5) | exact fr2 | exact sx_3N (sx_3N p2 (by decide)) (by decide) | (have q := fq_m_u (f := (fp_um (mv ν) st m (ν 83 14).toNat)) hv2 hv4 (by (simp only [k36, cu, cl] at *; first | done | omega)); exact ⟨((am_upM (by decide)).trans (if_pos ⟨rfl, rfl⟩)).trans q.1, Eq.trans (if_pos ⟨rfl, rfl⟩) q.2⟩) | (have q := fq_m_k (f := (fp_um (mv ν) st m (ν 83 14).toNat)) hv2 hv4 (ub 0).2 (by (simp only [k36, cu, cl] at *; first | done | omega)); exact ⟨k35.trans q.1, k36.trans q.2⟩) | (have r0 : 0 ≤ r := (by (simp only [cr, l0] at *; first | done | omega)); first | (intro a b q1 q2 q3 q4 q5; rw [am_uE (show ¬(a = 89 ∧ b = (am_c r).toNat) by rw [er]; omega)]; exact hv0 a b q1 q2 q3 q4 q5) | (rw [am_upN (by decide), am_upN (by decide)]; exact hv4) | exact sx_3N hv1 (by decide) | (by_cases d0 : r = 0; (exact Or.inr (by omega)); (refine Or.inl ?_; rw [quo r0, show (ν 83 14).toNat - 1 - r.toNat + 1 = (ν 83 14).toNat - 1 - (r + -1).toNat by omega])) | (by_cases d0 : r = 0; (exact Or.inr (by omega)); (refine Or.inl ?_; rw [quo r0, show (ν 83 14).toNat - 1 - r.toNat + 1 = (ν 83 14).toNat - 1 - (r - 1).toNat by omega])) | (intro q q1 q2; by_cases d : q = r.toNat; (rw [am_upS, if_pos ⟨rfl, by rw [er]; exact d⟩, rem r0, d]; rfl); (rw [am_upM (by rw [er]; exact d)]; exact hv9 q (by omega) q2))) | (trace_state; fail))
  have lp64' : ∀ (c y r : Int) (μ : am_N) , (∀ a b, ¬(a = 89 ∧ b < (ν 83 14).toNat) → a ≠ 99 → a ≠ 100 → a ≠ 104 → ¬(a = 83 ∧ (b = 35 ∨ b = 36)) → μ a b = ν a b) → sx_3 μ 100 → 0 ≤ c → c ≤ (fp_pw mI (ν 83 14).toNat) → (c = 0 ∧ μ 83 35 = 0 ∧ μ 83 36 = 999) ∨ (1 ≤ c ∧ μ 83 35 = ((fq_m (fp_um (mv ν) st m (ν 83 14).toNat) (c.toNat - 1) : Nat) : Int) ∧ μ 83 36 = (fp_um (mv ν) st m (ν 83 14).toNat) (fq_m (fp_um (mv ν) st m (ν 83 14).toNat) (c.toNat - 1))) → c < (fp_pw mI (ν 83 14).toNat) → -1 ≤ r → r < ν 83 14 → y = ((fp_dq m c.toNat ((ν 83 14).toNat - 1 - r.toNat) : Nat) : Int) ∨ r = -1 → (∀ q : Nat, r < (q : Int) → q < (ν 83 14).toNat → μ 89 q = fp_sv st m c.toNat ((ν 83 14).toNat - 1 - q)) → (∀ (o5 o6 : Option am_V) (μ : am_N), (∀ a b, ¬(a = 89 ∧ b < (ν 83 14).toNat) → a ≠ 99 → a ≠ 100 → a ≠ 104 → ¬(a = 83 ∧ (b = 35 ∨ b = 36)) → μ a b = ν a b) → sx_3 μ 100 → (μ 83 35 = ((fq_m (fp_um (mv ν) st m (ν 83 14).toNat) c.toNat : Nat) : Int) ∧ μ 83 36 = (fp_um (mv ν) st m (ν 83 14).toNat) (fq_m (fp_um (mv ν) st m (ν 83 14).toNat) c.toNat)) → am_AW l 0 (fun _ => 0) 196 Q 46 [some (.inr (.inr 83)), some (.inl st), some (.inl mI), some (.inl (fp_pw mI (ν 83 14).toNat)), some (.inl (c + 1)), o5, o6] [] μ) → am_AW l 0 (fun _ => 0) 196 Q 64 [some (.inr (.inr 83)), some (.inl st), some (.inl mI), some (.inl (fp_pw mI (ν 83 14).toNat)), some (.inl c), some (.inl y), some (.inl r)] [] μ := fun c y r μ hv0 hv1 hv2 hv3 hv4 hv5 hv6 hv7 hv8 hv9 hv10 => lp64 ((r + 1) + 1).toNat c y r μ hv0 hv1 hv2 hv3 hv4 hv5 hv6 hv7 hv8 hv9 hv10 (by omega)
  have lp46 : ∀ (fz : Nat) (c : Int) (o5 o6 : Option am_V) (μ : am_N) , (∀ a b, ¬(a = 89 ∧ b < (ν 83 14).toNat) → a ≠ 99 → a ≠ 100 → a ≠ 104 → ¬(a = 83 ∧ (b = 35 ∨ b = 36)) → μ a b = ν a b) → sx_3 μ 100 → 0 ≤ c → c ≤ (fp_pw mI (ν 83 14).toNat) → (c = 0 ∧ μ 83 35 = 0 ∧ μ 83 36 = 999) ∨ (1 ≤ c ∧ μ 83 35 = ((fq_m (fp_um (mv ν) st m (ν 83 14).toNat) (c.toNat - 1) : Nat) : Int) ∧ μ 83 36 = (fp_um (mv ν) st m (ν 83 14).toNat) (fq_m (fp_um (mv ν) st m (ν 83 14).toNat) (c.toNat - 1))) → (fp_pw mI (ν 83 14).toNat) - c < (fz : Int) → am_AW l 0 (fun _ => 0) 196 Q 46 [some (.inr (.inr 83)), some (.inl st), some (.inl mI), some (.inl (fp_pw mI (ν 83 14).toNat)), some (.inl c), o5, o6] [] μ := by
    intro fz
    induction fz with
    | zero =>
      intro c o5 o6 μ hv0 hv1 hv2 hv3 hv4 hm
      exfalso
      omega
    | succ fz ih =>
      intro c o5 o6 μ hv0 hv1 hv2 hv3 hv4 hm
      have cc : am_c c = c := am_cR (by omega) (by omega)
      have ec : ((c.toNat : Nat) : Int) = c := Int.toNat_of_nonneg hv2
      have n8 : μ 83 14 = ν 83 14 := hv0 83 14 (by omega) (by decide) (by decide) (by decide) (by omega)
      refine am_go (ct := fun pc => Nat.beq pc 64 || Nat.beq pc 46 || Nat.beq pc 12) am_oX7_findStarts 300 ?_
      conv => whnf
      repeat' first
        | (refine (?_ : am_wp _ _ _ _ _ _ _ _ _ _ _ _); conv => whnf)
        | (refine (?_ : am_sw _ _ _ _); conv => whnf)
        | refine And.intro trivial ?_
        | exact trivial
        | refine k _ hv0 hv1 ?_
        | (rw [em]; refine lp12' 1 0 ?_ ?_ ?_)
        | refine ih _ _ _ _ ?_ ?_ ?_ ?_ ?_ ?_
        | refine lp64' _ _ _ _ ?_ ?_ ?_ ?_ ?_ ?_ ?_ ?_ ?_ ?_ ?_
        | refine And.intro (fun h => absurd h (by decide)) (fun _ => ?_)
        | refine And.intro (fun _ => ?_) (fun h => absurd (by decide) h)
        | refine And.intro (fun _ => ?_) (fun _ => ?_)
        | refine And.intro ?_ ?_
      all_goals (first | decide | assumption | omega | ((simp only [cc, cA] at *; first | done | omega)) | (rw [n8]; omega) | (refine Or.inl ?_; rw [n8, show (ν 83 14).toNat - 1 - (ν 83 14 - 1).toNat = 0 by omega]; exact ec.symm) | (intro q q1 q2; rw [n8] at q1; exact absurd q1 (by omega)) | (intro o5' o6' μ' q0 q1 q2; refine ih _ _ _ _ ?_ ?_ ?_ ?_ ?_ ?_ <;> first | assumption | omega | ((simp only [cc, cA] at *; first | done | omega)) | (refine Or.inr ⟨by omega, ?_⟩; rw [show (c + 1).toNat - 1 = c.toNat by omega]; exact q2)) | (have x := hv4.resolve_left (by (simp only [cc, cA] at *; first | done | omega)); rw [x.2.1]; unfold fp_sb3; rw [← emI, show c.toNat - 1 = (fp_pw mI (ν 83 14).toNat).toNat - 1 by (simp only [cc, cA] at *; first | done | omega)]) | (trace_state; fail))
  have lp46' : ∀ (c : Int) (o5 o6 : Option am_V) (μ : am_N) , (∀ a b, ¬(a = 89 ∧ b < (ν 83 14).toNat) → a ≠ 99 → a ≠ 100 → a ≠ 104 → ¬(a = 83 ∧ (b = 35 ∨ b = 36)) → μ a b = ν a b) → sx_3 μ 100 → 0 ≤ c → c ≤ (fp_pw mI (ν 83 14).toNat) → (c = 0 ∧ μ 83 35 = 0 ∧ μ 83 36 = 999) ∨ (1 ≤ c ∧ μ 83 35 = ((fq_m (fp_um (mv ν) st m (ν 83 14).toNat) (c.toNat - 1) : Nat) : Int) ∧ μ 83 36 = (fp_um (mv ν) st m (ν 83 14).toNat) (fq_m (fp_um (mv ν) st m (ν 83 14).toNat) (c.toNat - 1))) → am_AW l 0 (fun _ => 0) 196 Q 46 [some (.inr (.inr 83)), some (.inl st), some (.inl mI), some (.inl (fp_pw mI (ν 83 14).toNat)), some (.inl c), o5, o6] [] μ := fun c o5 o6 μ hv0 hv1 hv2 hv3 hv4 => lp46 (((fp_pw mI (ν 83 14).toNat) - c) + 1).toNat c o5 o6 μ hv0 hv1 hv2 hv3 hv4 (by omega)
  have lp12 : ∀ (fz : Nat) (x r : Int) , 0 ≤ r → r ≤ ν 83 14 → x = fp_pw mI r.toNat → ν 83 14 - r < (fz : Int) → am_AW l 0 (fun _ => 0) 196 Q 12 [some (.inr (.inr 83)), some (.inl st), some (.inl mI), some (.inl x), some (.inl r), none, none] [] ν := by
    intro fz
    induction fz with
    | zero =>
      intro x r  hv0 hv1 hv2 hm
      exfalso
      omega
    | succ fz ih =>
      intro x r  hv0 hv1 hv2 hm
      have cr : am_c r = r := am_cR (by omega) (by omega)
      refine am_go (ct := fun pc => Nat.beq pc 64 || Nat.beq pc 46 || Nat.beq pc 12) am_oX7_findStarts 300 ?_
      conv => whnf
      repeat' first
        | (refine (?_ : am_wp _ _ _ _ _ _ _ _ _ _ _ _); conv => whnf)
        | (refine (?_ : am_sw _ _ _ _); conv => whnf)
        | refine And.intro trivial ?_
        | exact trivial
        | (have rE : r.toNat = (ν 83 14).toNat := (by (simp only [cr, cn] at *; first | done | omega)); rw [hv2, rE]; refine lp46' 0 _ _ _ ?_ ?_ ?_ ?_ ?_)
        | (rw [em]; refine lp12' 1 0 ?_ ?_ ?_)
        | refine ih _ _  ?_ ?_ ?_ ?_
        | refine lp46' _ _ _ _ ?_ ?_ ?_ ?_ ?_
        | refine lp64' _ _ _ _ ?_ ?_ ?_ ?_ ?_ ?_ ?_ ?_ ?_ ?_ ?_
        | refine And.intro (fun h => absurd h (by decide)) (fun _ => ?_)
        | refine And.intro (fun _ => ?_) (fun h => absurd (by decide) h)
        | refine And.intro (fun _ => ?_) (fun _ => ?_)
        | refine And.intro ?_ ?_
      all_goals (first | decide | assumption | omega | ((simp only [cr, cn] at *; first | done | omega)) | (rw [show (r + 1).toNat = r.toNat + 1 by omega, hv2]; rfl) | (intro a b q1 q2 q3 q4 q5; rw [am_uE (by omega), am_uE (by omega)]) | exact sx_3N (sx_3N (fun p hp => mi_or hm0 p hp) (by decide)) (by decide) | exact Or.inl ⟨rfl, rfl, rfl⟩ | (trace_state; fail))
  have lp12' : ∀ (x r : Int) , 0 ≤ r → r ≤ ν 83 14 → x = fp_pw mI r.toNat → am_AW l 0 (fun _ => 0) 196 Q 12 [some (.inr (.inr 83)), some (.inl st), some (.inl mI), some (.inl x), some (.inl r), none, none] [] ν := fun x r  hv0 hv1 hv2 => lp12 ((ν 83 14 - r) + 1).toNat x r  hv0 hv1 hv2 (by omega)
  refine am_go (ct := fun pc => Nat.beq pc 64 || Nat.beq pc 46 || Nat.beq pc 12) am_oX7_findStarts 300 ?_
  conv => whnf
  repeat' first
    | (refine (?_ : am_wp _ _ _ _ _ _ _ _ _ _ _ _); conv => whnf)
    | (refine (?_ : am_sw _ _ _ _); conv => whnf)
    | refine And.intro trivial ?_
    | exact trivial
    | (rw [em]; refine lp12' 1 0 ?_ ?_ ?_)
    | refine lp12' _ _  ?_ ?_ ?_
    | refine lp46' _ _ _ _ ?_ ?_ ?_ ?_ ?_
    | refine lp64' _ _ _ _ ?_ ?_ ?_ ?_ ?_ ?_ ?_ ?_ ?_ ?_ ?_
    | refine And.intro (fun h => absurd h (by decide)) (fun _ => ?_)
    | refine And.intro (fun _ => ?_) (fun h => absurd (by decide) h)
    | refine And.intro (fun _ => ?_) (fun _ => ?_)
    | refine And.intro ?_ ?_
  all_goals (first | decide | assumption | omega | rfl | (rw [cs]; omega) | (trace_state; fail))
