/-! two TEAMS -/
theorem fp_btF : ∀ (b : Fin 16) (i : Fin 4), am_and (am_shr ((b : Nat) : Int) ((i : Nat) : Int)) 1 = 0 ∨ am_and (am_shr ((b : Nat) : Int) ((i : Nat) : Int)) 1 = 1 := by decide +kernel
theorem fp_bt {b i : Int} (b0 : 0 ≤ b) (b1 : b ≤ 15) (i0 : 0 ≤ i) (i1 : i < 4) : am_and (am_shr b i) 1 = 0 ∨ am_and (am_shr b i) 1 = 1 := by
  have h := fp_btF ⟨b.toNat, by omega⟩ ⟨i.toNat, by omega⟩
  simp only [Int.toNat_of_nonneg b0, Int.toNat_of_nonneg i0] at h
  exact h
/-- half the WAY -/
def fp_hf (F : am_N) (i : Nat) : Int := fp_to F i ((F 0 0).tdiv 2) 0
def fp_as (F : am_N) (b : Int) : Nat → Int
  | 0 => 0
  | i + 1 => if am_and (am_shr b i) 1 = 0 then fp_as F b i - fp_hf F i else fp_as F b i + fp_hf F i
/-- how far apart -/
def fp_ap (F : am_N) (b : Int) : Int := if 0 ≤ fp_as F b (F 0 4).toNat then fp_as F b (F 0 4).toNat else 0 - fp_as F b (F 0 4).toNat
theorem fp_hf_b {F : am_N} {i : Nat} (h : fp_fw 999 F) (hi : (i : Int) < F 0 4) : 1 ≤ fp_hf F i ∧ fp_hf F i ≤ 60000 := by
  have w := h.1
  refine fp_to_b h (by decide) hi ?_
  rw [Int.tdiv_eq_ediv_of_nonneg (by omega)]
  omega
theorem fp_as_b {F : am_N} (h : fp_fw 999 F) (b : Int) : ∀ m : Nat, (m : Int) ≤ F 0 4 → -(60000 * (m : Int)) ≤ fp_as F b m ∧ fp_as F b m ≤ 60000 * (m : Int) := by
  intro m
  induction m with
  | zero => intro _; exact ⟨(by first | exact Int.le_refl 0 | (show (0 : Int) ≤ 1; decide) | (show (0 : Int) ≤ _; decide) | (show _ ≤ (0 : Int); decide) | (show (1 : Int) ≤ _; decide) | (show (0 : Int) < _; decide)), (by first | exact Int.le_refl 0 | (show (0 : Int) ≤ 1; decide) | (show (0 : Int) ≤ _; decide) | (show _ ≤ (0 : Int); decide) | (show (1 : Int) ≤ _; decide) | (show (0 : Int) < _; decide))⟩
  | succ m ih =>
    intro hm
    have q := ih (by omega)
    have w := fp_hf_b (i := m) h (by omega)
    simp only [fp_as]
    split <;> omega
theorem fp_ap_b {F : am_N} (h : fp_fw 999 F) (b : Int) : 0 ≤ fp_ap F b ∧ fp_ap F b ≤ 240000 := by
  have n4 := h.2.2.2.2.1
  have q := fp_as_b h b (F 0 4).toNat (by omega)
  unfold fp_ap
  split <;> omega
def fp_al (F : am_N) : Int := am_shl 1 (F 0 4) - 1
theorem fp_al_b {n : Int} (h0 : 2 ≤ n) (h1 : n ≤ 4) : 3 ≤ am_shl 1 n - 1 ∧ am_shl 1 n - 1 ≤ 15 ∧ (am_shl 1 n - 1) % 2 = 1 := by
  rcases (show n = 2 ∨ n = 3 ∨ n = 4 by omega) with rfl | rfl | rfl <;> exact ⟨by decide +kernel, by decide +kernel, by decide +kernel⟩
/-- the best bits from b on -/
def fp_tm (F : am_N) : Nat → Int → Int → Int
  | 0, _, t => t
  | m + 1, b, t => if b < fp_al F then fp_tm F m (b + 2) (if fp_ap F b < fp_ap F t then b else t) else t
def fp_bs (F : am_N) : Int := fp_tm F 7 3 1
theorem fp_tm_s {F : am_N} {b t : Int} (h : b < fp_al F) (b0 : 0 ≤ b) (b1 : b ≤ 14) : fp_tm F (8 - b / 2).toNat b t = fp_tm F (8 - (b + 2) / 2).toNat (b + 2) (if fp_ap F b < fp_ap F t then b else t) := by
  rw [show (8 - b / 2).toNat = (8 - (b + 2) / 2).toNat + 1 by omega]
  exact if_pos h
theorem fp_tm_z {F : am_N} {b t : Int} (h : ¬ b < fp_al F) : ∀ m : Nat, fp_tm F m b t = t
  | 0 => rfl
  | _ + 1 => if_neg h
/-- the answer of teams() -/
def fp_tr (F : am_N) (w : Int) : Int := if ¬(w = 0 ∨ w = 1) then -2 else if F 0 4 < 2 then -3 else if w = 0 then fp_bs F else fp_ap F (fp_bs F)
theorem s_apart {l : Launch} {ν : am_N} {Q : Option am_V → am_N → Prop} (b : Int) (hw : fp_fw 999 (fv ν 1)) (b0 : 0 ≤ b) (b1 : b ≤ 15) (k : ∀ v : Int, v = fp_ap (fv ν 1) b → 0 ≤ v → v ≤ 240000 → am_c v = v → Q (some (.inl v)) ν) : am_Does l 129 [.inr (.inr 0), .inl b] ν Q := by
  refine am_Does_of (Nat.le_of_ble_eq_true rfl) (Nat.le_of_ble_eq_true rfl) (Nat.le_of_ble_eq_true rfl) ?_
  have l0 : am_c 0 = 0 := rfl
  have l1 : am_c 1 = 1 := rfl
  have l2 : am_c 2 = 2 := rfl
  have l3 : am_c 3 = 3 := rfl
  obtain ⟨hf, -, -, -, hway, -, -⟩ := fw_C hw (by decide)
  have f0 := hf.1.1
  have f1 := hf.1.2
  have e4 : fv ν 1 0 4 = ν 1 4 := fv_0 (by decide)
  have eW : fv ν 1 0 0 = ν 1 0 := fv_0 (by decide)
  have hd : 10 ≤ (ν 1 0).tdiv 2 ∧ (ν 1 0).tdiv 2 ≤ 100 := by rw [Int.tdiv_eq_ediv_of_nonneg (by omega)]; omega
  have cW : am_c (ν 1 0) = ν 1 0 := am_cR (by omega) (by omega)
  have cd2 : (am_c (ν 1 0)).tdiv (am_c 2) = (ν 1 0).tdiv 2 := by rw [cW]; rfl
  have hz := fp_ap_b hw b
  have hn := fp_as_b hw b ((fv ν 1) 0 4).toNat (by omega)
  have kk := fun (x : Int) (e : x = fp_ap (fv ν 1) b) => am_qe (k _ rfl hz.1 hz.2 (am_cR (by omega) (by omega))) e
  have lp4 : ∀ (m : Nat) (x i : Int) (o4 : Option am_V) , 0 ≤ i → i ≤ ν 1 4 → x = fp_as (fv ν 1) b i.toNat → ν 1 4 - i < (m : Int) → am_AW l 0 (fun _ => 0) 129 Q 4 [some (.inr (.inr 0)), some (.inl b), some (.inl x), some (.inl i), o4] [] ν := by
    intro m
    induction m with
    | zero =>
      intro x i o4  hv0 hv1 hv2 hm
      exfalso
      omega
    | succ m ih =>
      intro x i o4  hv0 hv1 hv2 hm
      have ci : am_c i = i := am_cR (by omega) (by omega)
      have cn : am_c (ν 1 4) = ν 1 4 := am_cR (by omega) (by omega)
      have bt := fun q : i < ν 1 4 => fp_bt (i := i) b0 b1 hv0 (by omega)
      have bx := fp_as_b hw b i.toNat (by omega)
      have ca := fun q : i < ν 1 4 => (show am_c (am_and (am_shr b i) 1) = am_and (am_shr b i) 1 by rcases bt q with z | z <;> rw [z] <;> rfl)
      have cx : am_c x = x := am_cR (by omega) (by omega)
      refine am_go (ct := fun pc => Nat.beq pc 4) am_oX6_apart 300 ?_
      conv => whnf
      repeat' first
        | (refine (?_ : am_wp _ _ _ _ _ _ _ _ _ _ _ _); conv => whnf)
        | (refine (?_ : am_sw _ _ _ _); conv => whnf)
        | refine And.intro trivial ?_
        | exact trivial
        | (have hi : i < ν 1 4 := (by rw [ci, cn] at *; omega); have ca := ca hi; have bt := bt hi; refine s_tenthsOver _ _ _ hw ?_ ?_ ?_ ?_ ?_ ?_ (fun v ev v0 v1 cv => ?_))
        | refine kk _ ?_
        | refine ih _ _ _  ?_ ?_ ?_ ?_
        | refine And.intro (fun h => absurd h (by decide)) (fun _ => ?_)
        | refine And.intro (fun _ => ?_) (fun h => absurd (by decide) h)
        | refine And.intro (fun _ => ?_) (fun _ => ?_)
        | refine And.intro ?_ ?_
      all_goals (first | decide | assumption | omega | (simp only [cd2]; omega) | (rw [ci, cn] at *; omega) | (rw [show (i + 1).toNat = i.toNat + 1 by omega]; simp only [fp_as]; have eh : v = fp_hf (fv ν 1) i.toNat := (by unfold fp_hf; rw [eW]; simp only [cd2] at ev; exact ev); have ei : ((i.toNat : Nat) : Int) = i := Int.toNat_of_nonneg hv0; rw [ei, if_pos (by simp only [ca, l0, l1] at *; omega), ← eh, hv2]; all_goals (first | rfl | omega)) | (rw [show (i + 1).toNat = i.toNat + 1 by omega]; simp only [fp_as]; have eh : v = fp_hf (fv ν 1) i.toNat := (by unfold fp_hf; rw [eW]; simp only [cd2] at ev; exact ev); have ei : ((i.toNat : Nat) : Int) = i := Int.toNat_of_nonneg hv0; rw [ei, if_neg (by simp only [ca, l0, l1] at *; omega), ← eh, hv2]; all_goals (first | rfl | omega)) | (unfold fp_ap; rw [e4, show (ν 1 4).toNat = i.toNat by rw [ci, cn] at *; omega, ← hv2]; first | (rw [cx]; done) | ((repeat' split) <;> first | rfl | omega | (simp only [cx, l0] at *; omega))) | (trace_state; fail))
  have lp4' : ∀ (x i : Int) (o4 : Option am_V) , 0 ≤ i → i ≤ ν 1 4 → x = fp_as (fv ν 1) b i.toNat → am_AW l 0 (fun _ => 0) 129 Q 4 [some (.inr (.inr 0)), some (.inl b), some (.inl x), some (.inl i), o4] [] ν := fun x i o4  hv0 hv1 hv2 => lp4 ((ν 1 4 - i) + 1).toNat x i o4  hv0 hv1 hv2 (by omega)
  refine am_go (ct := fun pc => Nat.beq pc 4) am_oX6_apart 300 ?_
  conv => whnf
  repeat' first
    | (refine (?_ : am_wp _ _ _ _ _ _ _ _ _ _ _ _); conv => whnf)
    | (refine (?_ : am_sw _ _ _ _); conv => whnf)
    | refine And.intro trivial ?_
    | exact trivial
    | refine lp4' _ _ _  ?_ ?_ ?_
    | refine And.intro (fun h => absurd h (by decide)) (fun _ => ?_)
    | refine And.intro (fun _ => ?_) (fun h => absurd (by decide) h)
    | refine And.intro (fun _ => ?_) (fun _ => ?_)
    | refine And.intro ?_ ?_
  all_goals (first | decide | assumption | omega | rfl | (trace_state; fail))
theorem n_apartBy {l : Launch} {ν : am_N} {Q : Option am_V → am_N → Prop} (b : Int) (hw : fp_fw 999 (mv ν)) (b0 : 0 ≤ b) (b1 : b ≤ 15) (k : ∀ v : Int, v = fp_ap (mv ν) b → 0 ≤ v → v ≤ 240000 → am_c v = v → Q (some (.inl v)) ν) : am_Does l 209 [.inr (.inr 83), .inl b] ν Q := by
  refine am_Does_of (Nat.le_of_ble_eq_true rfl) (Nat.le_of_ble_eq_true rfl) (Nat.le_of_ble_eq_true rfl) ?_
  have l0 : am_c 0 = 0 := rfl
  have l1 : am_c 1 = 1 := rfl
  have l2 : am_c 2 = 2 := rfl
  have l3 : am_c 3 = 3 := rfl
  obtain ⟨hf, -, -, -, hway, -, -⟩ := fw_M hw (by decide)
  have f0 := hf.1.1
  have f1 := hf.1.2
  have e4 : mv ν 0 4 = ν 83 14 := rfl
  have eW : mv ν 0 0 = ν 83 10 := rfl
  have hd : 10 ≤ (ν 83 10).tdiv 2 ∧ (ν 83 10).tdiv 2 ≤ 100 := by rw [Int.tdiv_eq_ediv_of_nonneg (by omega)]; omega
  have cW : am_c (ν 83 10) = ν 83 10 := am_cR (by omega) (by omega)
  have cd2 : (am_c (ν 83 10)).tdiv (am_c 2) = (ν 83 10).tdiv 2 := by rw [cW]; rfl
  have hz := fp_ap_b hw b
  have hn := fp_as_b hw b ((mv ν) 0 4).toNat (by omega)
  have kk := fun (x : Int) (e : x = fp_ap (mv ν) b) => am_qe (k _ rfl hz.1 hz.2 (am_cR (by omega) (by omega))) e
  have lp4 : ∀ (m : Nat) (x i : Int) , 0 ≤ i → i ≤ ν 83 14 → x = fp_as (mv ν) b i.toNat → ν 83 14 - i < (m : Int) → am_AW l 0 (fun _ => 0) 209 Q 4 [some (.inr (.inr 83)), some (.inl b), some (.inl x), some (.inl i)] [] ν := by
    intro m
    induction m with
    | zero =>
      intro x i  hv0 hv1 hv2 hm
      exfalso
      omega
    | succ m ih =>
      intro x i  hv0 hv1 hv2 hm
      have ci : am_c i = i := am_cR (by omega) (by omega)
      have cn : am_c (ν 83 14) = ν 83 14 := am_cR (by omega) (by omega)
      have bt := fun q : i < ν 83 14 => fp_bt (i := i) b0 b1 hv0 (by omega)
      have bx := fp_as_b hw b i.toNat (by omega)
      have ca := fun q : i < ν 83 14 => (show am_c (am_and (am_shr b i) 1) = am_and (am_shr b i) 1 by rcases bt q with z | z <;> rw [z] <;> rfl)
      have cx : am_c x = x := am_cR (by omega) (by omega)
      refine am_go (ct := fun pc => Nat.beq pc 4) am_oX7_apartBy 300 ?_
      conv => whnf
      repeat' first
        | (refine (?_ : am_wp _ _ _ _ _ _ _ _ _ _ _ _); conv => whnf)
        | (refine (?_ : am_sw _ _ _ _); conv => whnf)
        | refine And.intro trivial ?_
        | exact trivial
        | (have hi : i < ν 83 14 := (by rw [ci, cn] at *; omega); have ca := ca hi; have bt := bt hi; refine n_timeOver _ _ _ hw ?_ ?_ ?_ ?_ ?_ ?_ (fun v ev v0 v1 cv => ?_))
        | refine kk _ ?_
        | refine ih _ _  ?_ ?_ ?_ ?_
        | refine And.intro (fun h => absurd h (by decide)) (fun _ => ?_)
        | refine And.intro (fun _ => ?_) (fun h => absurd (by decide) h)
        | refine And.intro (fun _ => ?_) (fun _ => ?_)
        | refine And.intro ?_ ?_
      all_goals (first | decide | assumption | omega | (simp only [cd2]; omega) | (rw [ci, cn] at *; omega) | (rw [show (i + 1).toNat = i.toNat + 1 by omega]; simp only [fp_as]; have eh : v = fp_hf (mv ν) i.toNat := (by unfold fp_hf; rw [eW]; simp only [cd2] at ev; exact ev); have ei : ((i.toNat : Nat) : Int) = i := Int.toNat_of_nonneg hv0; rw [ei, if_pos (by simp only [ca, l0, l1] at *; omega), ← eh, hv2]; all_goals (first | rfl | omega)) | (rw [show (i + 1).toNat = i.toNat + 1 by omega]; simp only [fp_as]; have eh : v = fp_hf (mv ν) i.toNat := (by unfold fp_hf; rw [eW]; simp only [cd2] at ev; exact ev); have ei : ((i.toNat : Nat) : Int) = i := Int.toNat_of_nonneg hv0; rw [ei, if_neg (by simp only [ca, l0, l1] at *; omega), ← eh, hv2]; all_goals (first | rfl | omega)) | (unfold fp_ap; rw [e4, show (ν 83 14).toNat = i.toNat by rw [ci, cn] at *; omega, ← hv2]; first | (rw [cx]; done) | ((repeat' split) <;> first | rfl | omega | (simp only [cx, l0] at *; omega))) | (trace_state; fail))
  have lp4' : ∀ (x i : Int) , 0 ≤ i → i ≤ ν 83 14 → x = fp_as (mv ν) b i.toNat → am_AW l 0 (fun _ => 0) 209 Q 4 [some (.inr (.inr 83)), some (.inl b), some (.inl x), some (.inl i)] [] ν := fun x i  hv0 hv1 hv2 => lp4 ((ν 83 14 - i) + 1).toNat x i  hv0 hv1 hv2 (by omega)
  refine am_go (ct := fun pc => Nat.beq pc 4) am_oX7_apartBy 300 ?_
  conv => whnf
  repeat' first
    | (refine (?_ : am_wp _ _ _ _ _ _ _ _ _ _ _ _); conv => whnf)
    | (refine (?_ : am_sw _ _ _ _); conv => whnf)
    | refine And.intro trivial ?_
    | exact trivial
    | refine lp4' _ _  ?_ ?_ ?_
    | refine And.intro (fun h => absurd h (by decide)) (fun _ => ?_)
    | refine And.intro (fun _ => ?_) (fun h => absurd (by decide) h)
    | refine And.intro (fun _ => ?_) (fun _ => ?_)
    | refine And.intro ?_ ?_
  all_goals (first | decide | assumption | omega | rfl | (trace_state; fail))
theorem s_teams {l : Launch} {ν : am_N} {Q : Option am_V → am_N → Prop} (w : Int) (cw : am_c w = w) (hw : fp_fw 999 (fv ν 1)) (k : ∀ μ' : am_N, (∀ a b, a ≠ 78 → μ' a b = ν a b) → Q (some (.inl (fp_tr (fv ν 1) w))) μ') : am_Does l 82 [.inr (.inr 0), .inl w] ν Q := by
  refine am_Does_of (Nat.le_of_ble_eq_true rfl) (Nat.le_of_ble_eq_true rfl) (Nat.le_of_ble_eq_true rfl) ?_
  have l0 : am_c 0 = 0 := rfl
  have l1 : am_c 1 = 1 := rfl
  have l2 : am_c 2 = 2 := rfl
  have l3 : am_c 3 = 3 := rfl
  have m2' : am_c (-2) = -2 := rfl
  have m3' : am_c (-3) = -3 := rfl
  obtain ⟨hf, -, -, -, -, -, -⟩ := fw_C hw (by decide)
  have f0 := hf.1.1
  have f1 := hf.1.2
  have e4 : fv ν 1 0 4 = ν 1 4 := fv_0 (by decide)
  have cn : am_c (ν 1 4) = ν 1 4 := am_cR (by omega) (by omega)
  have ea : fp_al (fv ν 1) = am_shl 1 (ν 1 4) - 1 := by unfold fp_al; rw [e4]
  have ab := fun q : 2 ≤ ν 1 4 => fp_al_b q f1
  have kk := fun (x : Int) (μ' : am_N) (h : ∀ a b, a ≠ 78 → μ' a b = ν a b) (e : x = fp_tr (fv ν 1) w) => am_qe (k μ' h) e
  have lp52 : ∀ (m : Nat) (A t x b : Int) (o6 : Option am_V) , 1 ≤ b → b ≤ 15 → b % 2 = 1 → (b = 1 ∧ x = -1 ∧ t = 1) ∨ (3 ≤ b ∧ x = fp_ap (fv ν 1) t ∧ (0 ≤ t ∧ t ≤ 15) ∧ fp_tm (fv ν 1) (8 - b / 2).toNat b t = fp_bs (fv ν 1)) → A = am_shl 1 (ν 1 4) - 1 → (w = 0 ∨ w = 1) → 2 ≤ ν 1 4 → 16 - b < (m : Int) → am_AW l 0 (fun _ => 0) 82 Q 52 [some (.inr (.inr 0)), some (.inl w), some (.inl A), some (.inl t), some (.inl x), some (.inl b), o6] [] ν := by
    intro m
    induction m with
    | zero =>
      intro A t x b o6  hv0 hv1 hv2 hv3 hv4 hv5 hv6 hm
      exfalso
      omega
    | succ m ih =>
      intro A t x b o6  hv0 hv1 hv2 hv3 hv4 hv5 hv6 hm
      have cb : am_c b = b := am_cR (by omega) (by omega)
      have ab := ab hv6
      have cA : am_c A = am_shl 1 (ν 1 4) - 1 := by rw [hv4]; exact am_cR (by omega) (by omega)
      have bx : -1 ≤ x ∧ x ≤ 240000 := by rcases hv3 with q | q; (omega); (have z := fp_ap_b hw t; omega)
      have cx : am_c x = x := am_cR (by omega) (by omega)
      have x0 := fun q : 3 ≤ b => (show 0 ≤ x by rcases hv3 with y | y; (omega); (have z := fp_ap_b hw t; omega))
      refine am_go (ct := fun pc => Nat.beq pc 52) am_oX6_teams 300 ?_
      conv => whnf
      repeat' first
        | (refine (?_ : am_wp _ _ _ _ _ _ _ _ _ _ _ _); conv => whnf)
        | (refine (?_ : am_sw _ _ _ _); conv => whnf)
        | refine And.intro trivial ?_
        | exact trivial
        | refine s_apart _ hw ?_ ?_ (fun v ev v0 v1 cv => ?_)
        | refine kk _ _ (fun _ _ _ => rfl) ?_
        | refine x_noPart _ cw (fun z => ?_) (fun z => ?_)
        | refine x_refuse _ ?_ (fun μr fr => ?_)
        | refine kk _ _ fr ?_
        | refine ih _ _ _ _ _  ?_ ?_ ?_ ?_ ?_ ?_ ?_ ?_
        | refine And.intro (fun h => absurd h (by decide)) (fun _ => ?_)
        | refine And.intro (fun _ => ?_) (fun h => absurd (by decide) h)
        | refine And.intro (fun _ => ?_) (fun _ => ?_)
        | refine And.intro ?_ ?_
      all_goals (first | decide | assumption | omega | (simp only [cA, cb] at *; omega) | (have bl : b < fp_al (fv ν 1) := (by rw [ea]; simp only [cA, cb] at *; omega); rcases hv3 with ⟨q1, q2, q3⟩ | ⟨q1, q2, q3, q4⟩; (first | (exfalso; simp only [cx, l0] at *; omega) | (subst q1; refine Or.inr ⟨by decide, ?_, by omega, ?_⟩; (first | exact ev | (rw [q3]; exact ev)); (first | rfl | (rw [q3]; rfl)))); (have x0 := x0 q1; refine Or.inr ⟨by omega, ?_, by omega, ?_⟩; (first | exact ev | exact q2); (rw [← q4, fp_tm_s bl (by omega) (by omega)]; first | (rw [if_pos (by rw [← ev, ← q2]; simp only [cv, cx] at *; omega)]) | (rw [if_neg (by rw [← ev, ← q2]; simp only [cv, cx] at *; omega)])))) | (have z := fp_tm_z (F := (fv ν 1)) (b := b) (t := t) (by rw [ea]; simp only [cA, cb] at *; omega) (8 - b / 2).toNat; have hz : 3 ≤ b ∧ x = fp_ap (fv ν 1) t ∧ (0 ≤ t ∧ t ≤ 15) ∧ fp_tm (fv ν 1) (8 - b / 2).toNat b t = fp_bs (fv ν 1) := (by rcases hv3 with q | q; (exfalso; simp only [cA, cb] at *; omega); exact q); have zt : t = fp_bs (fv ν 1) := z.symm.trans hz.2.2.2; unfold fp_tr; rw [e4, if_neg (by omega), if_neg (by omega)]; first | (rw [if_pos (by simp only [cw, l0] at *; omega)]; exact zt) | (rw [if_neg (by simp only [cw, l0] at *; omega), ← zt]; exact hz.2.1)) | (trace_state; fail))
  have lp52' : ∀ (A t x b : Int) (o6 : Option am_V) , 1 ≤ b → b ≤ 15 → b % 2 = 1 → (b = 1 ∧ x = -1 ∧ t = 1) ∨ (3 ≤ b ∧ x = fp_ap (fv ν 1) t ∧ (0 ≤ t ∧ t ≤ 15) ∧ fp_tm (fv ν 1) (8 - b / 2).toNat b t = fp_bs (fv ν 1)) → A = am_shl 1 (ν 1 4) - 1 → (w = 0 ∨ w = 1) → 2 ≤ ν 1 4 → am_AW l 0 (fun _ => 0) 82 Q 52 [some (.inr (.inr 0)), some (.inl w), some (.inl A), some (.inl t), some (.inl x), some (.inl b), o6] [] ν := fun A t x b o6  hv0 hv1 hv2 hv3 hv4 hv5 hv6 => lp52 ((16 - b) + 1).toNat A t x b o6  hv0 hv1 hv2 hv3 hv4 hv5 hv6 (by omega)
  refine am_go (ct := fun pc => Nat.beq pc 52) am_oX6_teams 300 ?_
  conv => whnf
  repeat' first
    | (refine (?_ : am_wp _ _ _ _ _ _ _ _ _ _ _ _); conv => whnf)
    | (refine (?_ : am_sw _ _ _ _); conv => whnf)
    | refine And.intro trivial ?_
    | exact trivial
    | refine x_noPart _ cw (fun z => ?_) (fun z => ?_)
    | refine x_refuse _ ?_ (fun μr fr => ?_)
    | refine kk _ _ fr ?_
    | refine lp52' _ _ _ _ _  ?_ ?_ ?_ ?_ ?_ ?_ ?_
    | refine And.intro (fun h => absurd h (by decide)) (fun _ => ?_)
    | refine And.intro (fun _ => ?_) (fun h => absurd (by decide) h)
    | refine And.intro (fun _ => ?_) (fun _ => ?_)
    | refine And.intro ?_ ?_
  all_goals (first | decide | assumption | omega | rfl | (simp only [cn, l2] at *; omega) | (exact Or.inl ⟨rfl, rfl, rfl⟩) | (unfold fp_tr; rw [e4, if_pos (by omega)]; done) | (unfold fp_tr; rw [e4, if_neg (by omega), if_pos (by simp only [cn, l2] at *; omega)]; done) | (trace_state; fail))
theorem n_teams {l : Launch} {ν : am_N} {Q : Option am_V → am_N → Prop} (w : Int) (cw : am_c w = w) (hw : fp_fw 999 (mv ν)) (k : ∀ μ' : am_N, (∀ a b, a ≠ 84 → μ' a b = ν a b) → Q (some (.inl (fp_tr (mv ν) w))) μ') : am_Does l 210 [.inr (.inr 83), .inl w] ν Q := by
  refine am_Does_of (Nat.le_of_ble_eq_true rfl) (Nat.le_of_ble_eq_true rfl) (Nat.le_of_ble_eq_true rfl) ?_
  have l0 : am_c 0 = 0 := rfl
  have l1 : am_c 1 = 1 := rfl
  have l2 : am_c 2 = 2 := rfl
  have l3 : am_c 3 = 3 := rfl
  have m2' : am_c (-2) = -2 := rfl
  have m3' : am_c (-3) = -3 := rfl
  obtain ⟨hf, -, -, -, -, -, -⟩ := fw_M hw (by decide)
  have f0 := hf.1.1
  have f1 := hf.1.2
  have e4 : mv ν 0 4 = ν 83 14 := rfl
  have cn : am_c (ν 83 14) = ν 83 14 := am_cR (by omega) (by omega)
  have ea : fp_al (mv ν) = am_shl 1 (ν 83 14) - 1 := by unfold fp_al; rw [e4]
  have ab := fun q : 2 ≤ ν 83 14 => fp_al_b q f1
  have kk := fun (x : Int) (μ' : am_N) (h : ∀ a b, a ≠ 84 → μ' a b = ν a b) (e : x = fp_tr (mv ν) w) => am_qe (k μ' h) e
  have lp44 : ∀ (m : Nat) (y t b : Int) , 3 ≤ b → b ≤ 17 → b % 2 = 1 → (0 ≤ t ∧ t ≤ 15) → fp_tm (mv ν) (8 - b / 2).toNat b t = fp_bs (mv ν) → (w = 0 ∨ w = 1) → 2 ≤ ν 83 14 → 18 - b < (m : Int) → am_AW l 0 (fun _ => 0) 210 Q 44 [some (.inr (.inr 83)), some (.inl w), some (.inl y), some (.inl t), some (.inl b)] [] ν := by
    intro m
    induction m with
    | zero =>
      intro y t b  hv0 hv1 hv2 hv3 hv4 hv5 hv6 hm
      exfalso
      omega
    | succ m ih =>
      intro y t b  hv0 hv1 hv2 hv3 hv4 hv5 hv6 hm
      have cb : am_c b = b := am_cR (by omega) (by omega)
      have ab := ab hv6
      have cA : am_c (am_shl 1 (ν 83 14) - 1) = am_shl 1 (ν 83 14) - 1 := am_cR (by omega) (by omega)
      refine am_go (ct := fun pc => Nat.beq pc 44) am_oX7_teams 300 ?_
      conv => whnf
      repeat' first
        | (refine (?_ : am_wp _ _ _ _ _ _ _ _ _ _ _ _); conv => whnf)
        | (refine (?_ : am_sw _ _ _ _); conv => whnf)
        | refine And.intro trivial ?_
        | exact trivial
        | (have _q := ev; refine n_apartBy _ hw ?_ ?_ (fun u eu u0 u1 cu => ?_))
        | refine n_apartBy _ hw ?_ ?_ (fun v ev v0 v1 cv => ?_)
        | refine kk _ _ (fun _ _ _ => rfl) ?_
        | refine x_isIn w _ _ _ rfl cw ?_ ?_ (fun _ _ => ?_) (fun _ => ?_)
        | refine x_no _ ?_ (fun μr fr => ?_)
        | refine And.intro (fun h => absurd h (by omega)) (fun _ => ?_)
        | refine And.intro (fun _ => ?_) (fun h => absurd h (by omega))
        | refine kk _ _ fr ?_
        | refine ih _ _ _  ?_ ?_ ?_ ?_ ?_ ?_ ?_ ?_
        | refine And.intro (fun h => absurd h (by decide)) (fun _ => ?_)
        | refine And.intro (fun _ => ?_) (fun h => absurd (by decide) h)
        | refine And.intro (fun _ => ?_) (fun _ => ?_)
        | refine And.intro ?_ ?_
      all_goals (first | decide | assumption | omega | (simp only [cA, cb] at *; omega) | (have bl : b < fp_al (mv ν) := (by rw [ea]; simp only [cA, cb] at *; omega); rw [← hv4, fp_tm_s bl (by omega) (by omega)]; first | (rw [if_pos (by rw [← ev, ← eu]; simp only [cv, cu] at *; omega)]) | (rw [if_neg (by rw [← ev, ← eu]; simp only [cv, cu] at *; omega)])) | (have z := fp_tm_z (F := (mv ν)) (b := b) (t := t) (by rw [ea]; simp only [cA, cb] at *; omega) (8 - b / 2).toNat; have zt : t = fp_bs (mv ν) := z.symm.trans hv4; unfold fp_tr; rw [e4, if_neg (by omega), if_neg (by omega)]; first | (rw [if_pos (by simp only [cw, l0] at *; omega)]; exact zt) | (rw [if_neg (by simp only [cw, l0] at *; omega), ← zt]; exact ev)) | (trace_state; fail))
  have lp44' : ∀ (y t b : Int) , 3 ≤ b → b ≤ 17 → b % 2 = 1 → (0 ≤ t ∧ t ≤ 15) → fp_tm (mv ν) (8 - b / 2).toNat b t = fp_bs (mv ν) → (w = 0 ∨ w = 1) → 2 ≤ ν 83 14 → am_AW l 0 (fun _ => 0) 210 Q 44 [some (.inr (.inr 83)), some (.inl w), some (.inl y), some (.inl t), some (.inl b)] [] ν := fun y t b  hv0 hv1 hv2 hv3 hv4 hv5 hv6 => lp44 ((18 - b) + 1).toNat y t b  hv0 hv1 hv2 hv3 hv4 hv5 hv6 (by omega)
  refine am_go (ct := fun pc => Nat.beq pc 44) am_oX7_teams 300 ?_
  conv => whnf
  repeat' first
    | (refine (?_ : am_wp _ _ _ _ _ _ _ _ _ _ _ _); conv => whnf)
    | (refine (?_ : am_sw _ _ _ _); conv => whnf)
    | refine And.intro trivial ?_
    | exact trivial
    | refine x_isIn w _ _ _ rfl cw ?_ ?_ (fun _ _ => ?_) (fun _ => ?_)
    | refine x_no _ ?_ (fun μr fr => ?_)
    | refine And.intro (fun h => absurd h (by omega)) (fun _ => ?_)
    | refine And.intro (fun _ => ?_) (fun h => absurd h (by omega))
    | refine kk _ _ fr ?_
    | refine lp44' _ _ _  ?_ ?_ ?_ ?_ ?_ ?_ ?_
    | refine And.intro (fun h => absurd h (by decide)) (fun _ => ?_)
    | refine And.intro (fun _ => ?_) (fun h => absurd (by decide) h)
    | refine And.intro (fun _ => ?_) (fun _ => ?_)
    | refine And.intro ?_ ?_
  all_goals (first | decide | assumption | omega | rfl | (simp only [cn, l2] at *; omega) | (unfold fp_tr; rw [e4, if_pos (by omega)]; done) | (unfold fp_tr; rw [e4, if_neg (by omega), if_pos (by simp only [cn, l2] at *; omega)]; done) | (trace_state; fail))
/-! who lets another win -/
theorem fp_orF : ∀ (x : Fin 16), am_or ((x : Nat) : Int) 0 = ((x : Nat) : Int) := by decide +kernel
theorem fp_or0 {x : Int} (h0 : 0 ≤ x) (h1 : x ≤ 15) : am_or x 0 = x := by
  have h := fp_orF ⟨x.toNat, by omega⟩
  simp only [Int.toNat_of_nonneg h0] at h
  exact h
theorem fp_orG : ∀ (x : Fin 16) (i : Fin 4), 0 ≤ am_or ((x : Nat) : Int) (am_shl 1 ((i : Nat) : Int)) ∧ am_or ((x : Nat) : Int) (am_shl 1 ((i : Nat) : Int)) ≤ 15 := by decide +kernel
theorem fp_or1 {x i : Int} (h0 : 0 ≤ x) (h1 : x ≤ 15) (i0 : 0 ≤ i) (i1 : i < 4) : 0 ≤ am_or x (am_shl 1 i) ∧ am_or x (am_shl 1 i) ≤ 15 := by
  have h := fp_orG ⟨x.toNat, by omega⟩ ⟨i.toNat, by omega⟩
  simp only [Int.toNat_of_nonneg h0, Int.toNat_of_nonneg i0] at h
  exact h
/-- the field with one as a RUNNER -/
def fp_k0 (F : am_N) (i : Nat) : am_N := fp_ct (am_up F 1 i 0)
theorem fw_k0 {W : Int} {F : am_N} {i : Nat} (h : fp_fw W F) : fp_fw W (fp_k0 F i) := by
  refine fw_ct ?_
  obtain ⟨h0, h1, h2, h3, h4, h5, h6⟩ := h
  have e : ∀ a b : Nat, a ≠ 1 → am_up F 1 i 0 a b = F a b := fun a b q => am_upN q
  unfold fp_fw
  rw [e 0 0 (by decide), e 0 1 (by decide), e 0 2 (by decide), e 0 3 (by decide), e 0 4 (by decide)]
  refine ⟨h0, h1, h2, h3, h4, fun j hj => ?_, fun j hj => ?_⟩
  · rw [e 5 j (by decide)]; exact h5 j hj
  · rw [e 2 j (by decide), e 3 j (by decide), e 4 j (by decide)]
    obtain ⟨q1, q2, q3, q4⟩ := h6 j hj
    refine ⟨?_, q2, q3, q4⟩
    by_cases d : j = i
    · rw [am_upS, if_pos ⟨rfl, d⟩]; exact ⟨by decide, by decide⟩
    · rw [am_upM d]; exact q1
def fp_lb (F : am_N) : Nat → Int
  | 0 => 0
  | i + 1 => if fp_f (fp_k0 F i) = fp_f F then fp_lb F i else am_or (fp_lb F i) (am_shl 1 i)
theorem fp_lb_b (F : am_N) : ∀ i : Nat, i ≤ 4 → 0 ≤ fp_lb F i ∧ fp_lb F i ≤ 15 := by
  intro i
  induction i with
  | zero => intro _; exact ⟨(by first | exact Int.le_refl 0 | (show (0 : Int) ≤ 1; decide) | (show (0 : Int) ≤ _; decide) | (show _ ≤ (0 : Int); decide) | (show (1 : Int) ≤ _; decide) | (show (0 : Int) < _; decide)), (by first | exact Int.le_refl 0 | (show (0 : Int) ≤ 1; decide) | (show (0 : Int) ≤ _; decide) | (show _ ≤ (0 : Int); decide) | (show (1 : Int) ≤ _; decide) | (show (0 : Int) < _; decide))⟩
  | succ i ih =>
    intro hi
    have q := ih (by omega)
    simp only [fp_lb]
    split
    · exact q
    · exact fp_or1 q.1 q.2 (by omega) (by omega)
/-- the answer of let() -/
def fp_le (F : am_N) : Int := if F 0 4 = 0 then -3 else fp_lb F (F 0 4).toNat
theorem fv_tk {μ ν : am_N} (h0 : ∀ b : Nat, b < 5 → μ 8 b = ν 1 b) (h1 : ∀ a : Nat, 0 < a → a < 7 → ∀ b : Nat, b < 4 → μ (8 + a) b = ν (1 + a) b) : fv μ 8 = fv ν 1 := fp_ct_e (fun b hb => h0 b hb) (fun a b q1 q2 q3 => h1 a q1 q2 b q3)
theorem sx_lt {ν μ : am_N} (hS : sx ν ν) (f : ∀ a b, ¬(8 ≤ a ∧ a < 15) → a ≠ 33 → a ≠ 34 → ¬(a = 29 ∧ b = 0) → a ≠ 78 → μ a b = ν a b) (h34 : sx_3 μ 34) (h8 : 0 ≤ μ 8 4 ∧ μ 8 4 ≤ 4) (h29 : 0 ≤ μ 29 0 ∧ μ 29 0 ≤ 4) : sx ν μ := by
  have p : ∀ a, sx_p a = true → ¬(8 ≤ a ∧ a < 15) ∧ a ≠ 33 ∧ a ≠ 34 ∧ a ≠ 29 ∧ a ≠ 78 := fun a ha => by
    refine ⟨fun z => ?_, fun z => ?_, fun z => ?_, fun z => ?_, fun z => ?_⟩
    · rcases (show a = 8 ∨ a = 9 ∨ a = 10 ∨ a = 11 ∨ a = 12 ∨ a = 13 ∨ a = 14 by omega) with rfl | rfl | rfl | rfl | rfl | rfl | rfl <;> cases ha
    all_goals (rw [z] at ha; cases ha)
  refine ⟨fun a b ha => f a b (p a ha).1 (p a ha).2.1 (p a ha).2.2.1 (fun z => (p a ha).2.2.2.1 z.1) (p a ha).2.2.2.2, h34, fun q hq => ?_, ⟨h8, ?_, h29, ?_⟩, hS.2.2.2.2⟩
  · rw [f 43 q (by omega) (by omega) (by omega) (by omega) (by omega)]; exact hS.2.2.1 q hq
  · rw [f 15 4 (by omega) (by omega) (by omega) (by omega) (by omega)]; exact hS.2.2.2.1.2.1
  · rw [f 38 0 (by omega) (by omega) (by omega) (by omega) (by omega)]; exact hS.2.2.2.1.2.2.2
theorem s_let {l : Launch} {ν : am_N} {Q : Option am_V → am_N → Prop} (hS : sx ν ν) (hw : fp_fw 999 (fv ν 1)) (k : ∀ μ' : am_N, sx ν μ' → Q (some (.inl (fp_le (fv ν 1)))) μ') : am_Does l 85 [.inr (.inr 0)] ν Q := by
  refine am_Does_of (Nat.le_of_ble_eq_true rfl) (Nat.le_of_ble_eq_true rfl) (Nat.le_of_ble_eq_true rfl) ?_
  have l0 : am_c 0 = 0 := rfl
  have l1 : am_c 1 = 1 := rfl
  have l2 : am_c 2 = 2 := rfl
  have l3 : am_c 3 = 3 := rfl
  obtain ⟨hf, -, -, -, -, -, -⟩ := fw_C hw (by decide)
  have f0 := hf.1.1
  have f1 := hf.1.2
  have e4 : fv ν 1 0 4 = ν 1 4 := fv_0 (by decide)
  have cn : am_c (ν 1 4) = ν 1 4 := am_cR (by omega) (by omega)
  have fb := fp_f_b (fv ν 1)
  have h15 := hS.2.2.2.1
  have kk := fun (x : Int) (μ' : am_N) (h : sx ν μ') (e : x = fp_le (fv ν 1)) => am_qe (k μ' h) e
  have lp40 : ∀ (m : Nat) (g x i : Int) (μ : am_N) , (∀ a b, ¬(8 ≤ a ∧ a < 15) → a ≠ 33 → a ≠ 34 → ¬(a = 29 ∧ b = 0) → μ a b = ν a b) → 0 ≤ i → i ≤ ν 1 4 → x = fp_lb (fv ν 1) i.toNat → g = fp_f (fv ν 1) → sx_3 μ 34 → (0 ≤ μ 8 4 ∧ μ 8 4 ≤ 4) → (0 ≤ μ 29 0 ∧ μ 29 0 ≤ 4) → 1 ≤ ν 1 4 → ν 1 4 - i < (m : Int) → am_AW l 0 (fun _ => 0) 85 Q 40 [some (.inr (.inr 0)), some (.inl g), some (.inl x), some (.inl i)] [] μ := by
    intro m
    induction m with
    | zero =>
      intro g x i μ hv0 hv1 hv2 hv3 hv4 hv5 hv6 hv7 hv8 hm
      exfalso
      omega
    | succ m ih =>
      intro g x i μ hv0 hv1 hv2 hv3 hv4 hv5 hv6 hv7 hv8 hm
      have ci : am_c i = i := am_cR (by omega) (by omega)
      have e14 : μ 1 4 = ν 1 4 := hv0 1 4 (by omega) (by omega) (by omega) (by omega)
      have sE : sx ν μ := sx_lt hS (fun a b q1 q2 q3 q4 _ => hv0 a b q1 q2 q3 q4) hv5 hv6 hv7
      have eF : fv μ 1 = (fv ν 1) := fv_keep (fun a b q1 q2 => hv0 a b (by omega) (by omega) (by omega) (by omega))
      have wk := fw_k0 (i := i.toNat) hw
      have kb := fp_f_b (fp_k0 (fv ν 1) i.toNat)
      have cg : am_c g = g := am_cR (by omega) (by omega)
      have ch : am_c (fp_f (fp_k0 (fv ν 1) i.toNat)) = fp_f (fp_k0 (fv ν 1) i.toNat) := am_cR (by omega) (by omega)
      refine am_go (ct := fun pc => Nat.beq pc 40) am_oX6_let 300 ?_
      conv => whnf
      repeat' first
        | (refine (?_ : am_wp _ _ _ _ _ _ _ _ _ _ _ _); conv => whnf)
        | (refine (?_ : am_sw _ _ _ _); conv => whnf)
        | refine And.intro trivial ?_
        | exact trivial
        | (have hi : i < ν 1 4 := (by rw [ci, e14, cn] at *; omega); refine x_take_8_1 (fun μ1 g1 s1 r1 => ?_); have p1 : fv μ1 8 = fv ν 1 := (fv_tk s1 r1).trans eF)
        | (have p2 : fv (am_up μ1 9 (am_c i).toNat 0) 8 = fp_k0 (fv ν 1) i.toNat := (by rw [ci, show fv (am_up μ1 9 i.toNat 0) 8 = fp_ct (am_up (fv μ1 8) 1 i.toNat 0) from fv_up (c := 8) (a := 1) (by decide), p1]; rfl); have hf2 : am_fC (am_up μ1 9 (am_c i).toNat 0) 8 := (fw_C (by rw [p2]; exact wk) (by decide)).1; have n84 : am_up μ1 9 (am_c i).toNat 0 8 4 = ν 1 4 := ((am_upN (by decide)).trans (s1 4 (by decide))).trans e14; have fr8 : ∀ a b, ¬(8 ≤ a ∧ a < 15) → am_up μ1 9 (am_c i).toNat 0 a b = μ1 a b := (fun a b q => am_upN (by omega)); refine x_asRule_29_8 hf2 (fun μ2 g2 n2 o2 t2 b2 => ?_); have w2 : μ2 34 0 = fp_f (fp_k0 (fv ν 1) i.toNat) := (by rw [fp_od_o (by rw [n84]; exact f1) o2 0 (by rw [n84]; omega), ← p2]; exact fv_f (by rw [n84]; exact f1)))
        | refine x_first_29_8 (fp_f (fp_k0 (fv ν 1) i.toNat)) w2 ?_ ?_ ?_
        | refine kk _ _ sE ?_
        | refine x_refuse _ ?_ (fun μr fr => ?_)
        | (have n1 : 1 ≤ ν 1 4 := (by rw [cn] at *; omega); refine x_asRule_29_1 hf (fun μ1 g1 n1 o1 t1 b1 => ?_); have w1 : μ1 34 0 = fp_f (fv ν 1) := (fp_od_o f1 o1 0 (by omega)).trans (fv_f f1))
        | refine x_first_29_1 (fp_f (fv ν 1)) w1 ?_ ?_ ?_
        | refine kk _ _ (sx_78 hS fr) ?_
        | refine ih _ _ _ _ ?_ ?_ ?_ ?_ ?_ ?_ ?_ ?_ ?_ ?_
        | refine And.intro (fun h => absurd h (by decide)) (fun _ => ?_)
        | refine And.intro (fun _ => ?_) (fun h => absurd (by decide) h)
        | refine And.intro (fun _ => ?_) (fun _ => ?_)
        | refine And.intro ?_ ?_
      all_goals (first | decide | omega | (rw [n2, n84]; omega) | (rw [ci]; omega) | (intro a b q1 q2 q3 q4; exact (g2 a b q2 q3 q4).trans ((fr8 a b q1).trans ((g1 a b q1).trans (hv0 a b q1 q2 q3 q4)))) | (refine b2 (sx_3N (fun p hp => ?_) (by decide)); rw [g1 34 p (by omega)]; exact hv5 p hp) | (rw [g2 8 4 (by decide) (by decide) (by omega), n84]; omega) | exact hv4 | (rw [show (i + 1).toNat = i.toNat + 1 by omega]; simp only [fp_lb]; have ei : ((i.toNat : Nat) : Int) = i := Int.toNat_of_nonneg hv1; rw [hv3, ei]; first | (rw [if_pos (by rw [← hv4]; simp only [cg, ch] at *; omega)]) | (rw [if_neg (by rw [← hv4]; simp only [cg, ch] at *; omega)])) | (unfold fp_le; rw [e4, if_neg (by omega), hv3, show i.toNat = (ν 1 4).toNat by rw [ci, e14, cn] at *; omega]) | (trace_state; fail))
  have lp40' : ∀ (g x i : Int) (μ : am_N) , (∀ a b, ¬(8 ≤ a ∧ a < 15) → a ≠ 33 → a ≠ 34 → ¬(a = 29 ∧ b = 0) → μ a b = ν a b) → 0 ≤ i → i ≤ ν 1 4 → x = fp_lb (fv ν 1) i.toNat → g = fp_f (fv ν 1) → sx_3 μ 34 → (0 ≤ μ 8 4 ∧ μ 8 4 ≤ 4) → (0 ≤ μ 29 0 ∧ μ 29 0 ≤ 4) → 1 ≤ ν 1 4 → am_AW l 0 (fun _ => 0) 85 Q 40 [some (.inr (.inr 0)), some (.inl g), some (.inl x), some (.inl i)] [] μ := fun g x i μ hv0 hv1 hv2 hv3 hv4 hv5 hv6 hv7 hv8 => lp40 ((ν 1 4 - i) + 1).toNat g x i μ hv0 hv1 hv2 hv3 hv4 hv5 hv6 hv7 hv8 (by omega)
  refine am_go (ct := fun pc => Nat.beq pc 40) am_oX6_let 300 ?_
  conv => whnf
  repeat' first
    | (refine (?_ : am_wp _ _ _ _ _ _ _ _ _ _ _ _); conv => whnf)
    | (refine (?_ : am_sw _ _ _ _); conv => whnf)
    | refine And.intro trivial ?_
    | exact trivial
    | refine x_refuse _ ?_ (fun μr fr => ?_)
    | (have n1 : 1 ≤ ν 1 4 := (by rw [cn] at *; omega); refine x_asRule_29_1 hf (fun μ1 g1 n1 o1 t1 b1 => ?_); have w1 : μ1 34 0 = fp_f (fv ν 1) := (fp_od_o f1 o1 0 (by omega)).trans (fv_f f1))
    | refine x_first_29_1 (fp_f (fv ν 1)) w1 ?_ ?_ ?_
    | refine kk _ _ (sx_78 hS fr) ?_
    | refine lp40' _ _ _ _ ?_ ?_ ?_ ?_ ?_ ?_ ?_ ?_ ?_
    | refine And.intro (fun h => absurd h (by decide)) (fun _ => ?_)
    | refine And.intro (fun _ => ?_) (fun h => absurd (by decide) h)
    | refine And.intro (fun _ => ?_) (fun _ => ?_)
    | refine And.intro ?_ ?_
  all_goals (first | decide | omega | (rw [n1]; omega) | rfl | (intro a b q1 q2 q3 q4; exact g1 a b q2 q3 q4) | exact b1 hS.2.1 | (rw [g1 8 4 (by decide) (by decide) (by omega)]; first | exact h15.1 | exact h15.1.1 | exact h15.1.2) | (unfold fp_le; rw [e4, if_pos (by rw [cn] at *; omega)]) | (trace_state; fail))
theorem n_let {l : Launch} {ν : am_N} {Q : Option am_V → am_N → Prop} (hm : mi ν) (hw : fp_fw 999 (mv ν)) (k : ∀ μ' : am_N, gm ms ν μ' → Q (some (.inl (fp_le (mv ν)))) μ') : am_Does l 212 [.inr (.inr 83)] ν Q := by
  refine am_Does_of (Nat.le_of_ble_eq_true rfl) (Nat.le_of_ble_eq_true rfl) (Nat.le_of_ble_eq_true rfl) ?_
  have l0 : am_c 0 = 0 := rfl
  have l1 : am_c 1 = 1 := rfl
  have l2 : am_c 2 = 2 := rfl
  have l3 : am_c 3 = 3 := rfl
  obtain ⟨hf, -, -, -, -, -, hx⟩ := fw_M hw (by decide)
  have f0 := hf.1.1
  have f1 := hf.1.2
  have e4 : mv ν 0 4 = ν 83 14 := rfl
  have cn : am_c (ν 83 14) = ν 83 14 := am_cR (by omega) (by omega)
  have fb := fp_f_b (mv ν)
  have kk := fun (x : Int) (μ' : am_N) (h : gm ms ν μ') (e : x = fp_le (mv ν)) => am_qe (k μ' h) e
  have hm0 := hm
  have lp29 : ∀ (m : Nat) (g x i : Int) (o4 : Option am_V) (μ : am_N) , (∀ a b, a ≠ 99 → a ≠ 100 → μ a b = ν a b) → 0 ≤ i → i ≤ ν 83 14 → x = fp_lb (mv ν) i.toNat → g = fp_f (mv ν) → sx_3 μ 100 → 1 ≤ ν 83 14 → ν 83 14 - i < (m : Int) → am_AW l 0 (fun _ => 0) 212 Q 29 [some (.inr (.inr 83)), some (.inl g), some (.inl x), some (.inl i), o4] [] μ := by
    intro m
    induction m with
    | zero =>
      intro g x i o4 μ hv0 hv1 hv2 hv3 hv4 hv5 hv6 hm
      exfalso
      omega
    | succ m ih =>
      intro g x i o4 μ hv0 hv1 hv2 hv3 hv4 hv5 hv6 hm
      have ci : am_c i = i := am_cR (by omega) (by omega)
      have e14 : μ 83 14 = ν 83 14 := hv0 83 14 (by decide) (by decide)
      have sE : gm ms ν μ := ⟨mi_rc hm0 (fun a b q => hv0 a b (by omega) (by omega)) hv5, fun a b ha => hv0 a b (fun z => by rw [z] at ha; cases ha) (fun z => by rw [z] at ha; cases ha)⟩
      have eF : mv μ = (mv ν) := mv_keep (fun a b q => hv0 a b (by omega) (by omega))
      have wk := fw_k0 (i := i.toNat) hw
      have kb := fp_f_b (fp_k0 (mv ν) i.toNat)
      have cg : am_c g = g := am_cR (by omega) (by omega)
      have ch : am_c (fp_f (fp_k0 (mv ν) i.toNat)) = fp_f (fp_k0 (mv ν) i.toNat) := am_cR (by omega) (by omega)
      have lb := fp_lb_b (mv ν) i.toNat (by omega)
      refine am_go (ct := fun pc => Nat.beq pc 29) am_oX7_let 300 ?_
      conv => whnf
      repeat' first
        | (refine (?_ : am_wp _ _ _ _ _ _ _ _ _ _ _ _); conv => whnf)
        | (refine (?_ : am_sw _ _ _ _); conv => whnf)
        | refine And.intro trivial ?_
        | exact trivial
        | (have hi : i < ν 83 14 := (by rw [ci, e14, cn] at *; omega); have p2 : mv (am_up μ 85 (am_c i).toNat 0) = fp_k0 (mv ν) i.toNat := (by rw [ci, show mv (am_up μ 85 i.toNat 0) = fp_ct (am_up (mv μ) 1 i.toNat 0) from mv_up (a := 0), eF]; rfl); have hf2 : am_fM (am_up μ 85 (am_c i).toNat 0) := (fw_M (by rw [p2]; exact wk) (by decide)).1; have n84 : am_up μ 85 (am_c i).toNat 0 83 14 = ν 83 14 := (am_upN (by decide)).trans e14; refine x_takesTimes hf2 (fun μ2 g2 o2 t2 b2 => ?_); have w2 : μ2 100 (am_c 0).toNat = fp_f (fp_k0 (mv ν) i.toNat) := (by rw [show (am_c 0).toNat = 0 from rfl, fp_od_o (by rw [n84]; exact f1) o2 0 (by rw [n84]; omega), ← p2]; exact mv_f (by rw [n84]; exact f1)))
        | refine kk _ _ sE ?_
        | refine x_no _ ?_ (fun μr fr => ?_)
        | (have n1 : 1 ≤ ν 83 14 := (by rw [cn] at *; omega); refine x_takesTimes hf (fun μ1 g1 o1 t1 b1 => ?_); have w1 : μ1 100 (am_c 0).toNat = fp_f (mv ν) := (fp_od_o f1 o1 0 (by omega)).trans (mv_f f1))
        | refine kk _ _ (mi_84 hm fr) ?_
        | refine ih _ _ _ _ _ ?_ ?_ ?_ ?_ ?_ ?_ ?_ ?_
        | refine And.intro (fun h => absurd h (by decide)) (fun _ => ?_)
        | refine And.intro (fun _ => ?_) (fun h => absurd (by decide) h)
        | refine And.intro (fun _ => ?_) (fun _ => ?_)
        | refine And.intro ?_ ?_
      all_goals (first | decide | omega | (rw [ci]; omega) | (rw [ci]; simp only [ci, e14, cn] at *; omega) | (intro a b q1 q2; by_cases d : a = 85; (subst d; by_cases c : b = (am_c i).toNat; (rw [am_upS, if_pos ⟨rfl, c⟩, c]; exact hv0 85 _ (by decide) (by decide)); (rw [am_upM c, g2 85 b (by decide) (by decide), am_upM c]; exact hv0 85 b q1 q2)); (rw [am_upN d, g2 a b q1 q2, am_upN d]; exact hv0 a b q1 q2)) | (refine sx_3N (b2 (sx_3N hv5 (by decide))) (by decide)) | exact hv4 | (rw [show (i + 1).toNat = i.toNat + 1 by omega]; simp only [fp_lb]; have ei : ((i.toNat : Nat) : Int) = i := Int.toNat_of_nonneg hv1; rw [hv3, ei]; first | (rw [if_pos (by rw [← hv4]; simp only [w2, cg, ch] at *; omega)]; exact fp_or0 lb.1 lb.2) | (rw [if_neg (by rw [← hv4]; simp only [w2, cg, ch] at *; omega)])) | (unfold fp_le; rw [e4, if_neg (by omega), hv3, show i.toNat = (ν 83 14).toNat by rw [ci, e14, cn] at *; omega]) | (trace_state; fail))
  have lp29' : ∀ (g x i : Int) (o4 : Option am_V) (μ : am_N) , (∀ a b, a ≠ 99 → a ≠ 100 → μ a b = ν a b) → 0 ≤ i → i ≤ ν 83 14 → x = fp_lb (mv ν) i.toNat → g = fp_f (mv ν) → sx_3 μ 100 → 1 ≤ ν 83 14 → am_AW l 0 (fun _ => 0) 212 Q 29 [some (.inr (.inr 83)), some (.inl g), some (.inl x), some (.inl i), o4] [] μ := fun g x i o4 μ hv0 hv1 hv2 hv3 hv4 hv5 hv6 => lp29 ((ν 83 14 - i) + 1).toNat g x i o4 μ hv0 hv1 hv2 hv3 hv4 hv5 hv6 (by omega)
  refine am_go (ct := fun pc => Nat.beq pc 29) am_oX7_let 300 ?_
  conv => whnf
  repeat' first
    | (refine (?_ : am_wp _ _ _ _ _ _ _ _ _ _ _ _); conv => whnf)
    | (refine (?_ : am_sw _ _ _ _); conv => whnf)
    | refine And.intro trivial ?_
    | exact trivial
    | refine x_no _ ?_ (fun μr fr => ?_)
    | (have n1 : 1 ≤ ν 83 14 := (by rw [cn] at *; omega); refine x_takesTimes hf (fun μ1 g1 o1 t1 b1 => ?_); have w1 : μ1 100 (am_c 0).toNat = fp_f (mv ν) := (fp_od_o f1 o1 0 (by omega)).trans (mv_f f1))
    | refine kk _ _ (mi_84 hm fr) ?_
    | refine lp29' _ _ _ _ _ ?_ ?_ ?_ ?_ ?_ ?_ ?_
    | refine And.intro (fun h => absurd h (by decide)) (fun _ => ?_)
    | refine And.intro (fun _ => ?_) (fun h => absurd (by decide) h)
    | refine And.intro (fun _ => ?_) (fun _ => ?_)
    | refine And.intro ?_ ?_
  all_goals (first | decide | omega | rfl | exact w1 | (intro a b q1 q2; exact g1 a b q1 q2) | exact b1 (fun p hp => mi_or hm p hp) | (unfold fp_le; rw [e4, if_pos (by rw [cn] at *; omega)]) | (trace_state; fail))
