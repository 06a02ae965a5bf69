/-! two TEAMS -/
theorem fp_btF : ∀ (b : Fin 16) (i : Fin 4), am_and (am_shr ((b : Nat) : Int) ((i : Nat) : Int)) 1 = 0 ∨ am_and (am_shr ((b : Nat) : Int) ((i : Nat) : Int)) 1 = 1 := by decide +kernel
theorem fp_bt {b i : Int} (b0 : 0 ≤ b) (b1 : b ≤ 15) (i0 : 0 ≤ i) (i1 : i < 4) : am_and (am_shr b i) 1 = 0 ∨ am_and (am_shr b i) 1 = 1 := by
  have h := fp_btF ⟨b.toNat, by omega⟩ ⟨i.toNat, by omega⟩
  simp only [Int.toNat_of_nonneg b0, Int.toNat_of_nonneg i0] at h
  exact h
/-- half the WAY -/
def fp_hf (F : am_N) (i : Nat) : Int := fp_to F i ((F 0 0).tdiv 2) 0
def fp_as (F : am_N) (b : Int) : Nat → Int
  | 0 => 0
  | i + 1 => if am_and (am_shr b i) 1 = 0 then fp_as F b i - fp_hf F i else fp_as F b i + fp_hf F i
/-- how far apart -/
def fp_ap (F : am_N) (b : Int) : Int := if 0 ≤ fp_as F b (F 0 4).toNat then fp_as F b (F 0 4).toNat else 0 - fp_as F b (F 0 4).toNat
theorem fp_hf_b {F : am_N} {i : Nat} (h : fp_fw 999 F) (hi : (i : Int) < F 0 4) : 1 ≤ fp_hf F i ∧ fp_hf F i ≤ 60000 := by
  have w := h.1
  refine fp_to_b h (by decide) hi ?_
  rw [Int.tdiv_eq_ediv_of_nonneg (by omega)]
  omega
theorem fp_as_b {F : am_N} (h : fp_fw 999 F) (b : Int) : ∀ m : Nat, (m : Int) ≤ F 0 4 → -(60000 * (m : Int)) ≤ fp_as F b m ∧ fp_as F b m ≤ 60000 * (m : Int) := by
  intro m
  induction m with
  | zero => intro _; exact ⟨(by first | exact Int.le_refl 0 | (show (0 : Int) ≤ 1; decide) | (show (0 : Int) ≤ _; decide) | (show _ ≤ (0 : Int); decide) | (show (1 : Int) ≤ _; decide) | (show (0 : Int) < _; decide)), (by first | exact Int.le_refl 0 | (show (0 : Int) ≤ 1; decide) | (show (0 : Int) ≤ _; decide) | (show _ ≤ (0 : Int); decide) | (show (1 : Int) ≤ _; decide) | (show (0 : Int) < _; decide))⟩
  | succ m ih =>
    intro hm
    have q := ih (by omega)
    have w := fp_hf_b (i := m) h (by omega)
    simp only [fp_as]
    split <;> omega
theorem fp_ap_b {F : am_N} (h : fp_fw 999 F) (b : Int) : 0 ≤ fp_ap F b ∧ fp_ap F b ≤ 240000 := by
  have n4 := h.2.2.2.2.1
  have q := fp_as_b h b (F 0 4).toNat (by omega)
  unfold fp_ap
  split <;> omega
def fp_al (F : am_N) : Int := am_shl 1 (F 0 4) - 1
theorem fp_al_b {n : Int} (h0 : 2 ≤ n) (h1 : n ≤ 4) : 3 ≤ am_shl 1 n - 1 ∧ am_shl 1 n - 1 ≤ 15 ∧ (am_shl 1 n - 1) % 2 = 1 := by
  rcases (show n = 2 ∨ n = 3 ∨ n = 4 by omega) with rfl | rfl | rfl <;> exact ⟨by decide +kernel, by decide +kernel, by decide +kernel⟩
/-- the best bits from b on -/
def fp_tm (F : am_N) : Nat → Int → Int → Int
  | 0, _, t => t
  | m + 1, b, t => if b < fp_al F then fp_tm F m (b + 2) (if fp_ap F b < fp_ap F t then b else t) else t
def fp_bs (F : am_N) : Int := fp_tm F 7 3 1
theorem fp_tm_s {F : am_N} {b t : Int} (h : b < fp_al F) (b0 : 0 ≤ b) (b1 : b ≤ 14) : fp_tm F (8 - b / 2).toNat b t = fp_tm F (8 - (b + 2) / 2).toNat (b + 2) (if fp_ap F b < fp_ap F t then b else t) := by
  rw [show (8 - b / 2).toNat = (8 - (b + 2) / 2).toNat + 1 by omega]
  exact if_pos h
theorem fp_tm_z {F : am_N} {b t : Int} (h : ¬ b < fp_al F) : ∀ m : Nat, fp_tm F m b t = t
  | 0 => rfl
  | _ + 1 => if_neg h
/-- the answer of teams() -/
def fp_tr (F : am_N) (w : Int) : Int := if ¬(w = 0 ∨ w = 1) then -2 else if F 0 4 < 2 then -3 else if w = 0 then fp_bs F else fp_ap F (fp_bs F)
theorem s_apart {l : Launch} {ν : am_N} {Q : Option am_V → am_N → Prop} (b : Int) (hw : fp_fw 999 (fv ν 1)) (b0 : 0 ≤ b) (b1 : b ≤ 15) (k : ∀ v : Int, v = fp_ap (fv ν 1) b → 0 ≤ v → v ≤ 240000 → am_c v = v → Q (some (.inl v)) ν) : am_Does l 129 [.inr (.inr 0), .inl b] ν Q := by
  refine am_Does_of (Nat.le_of_ble_eq_true rfl) (Nat.le_of_ble_eq_true rfl) (Nat.le_of_ble_eq_true rfl) ?_
  have l0 : am_c 0 = 0 := rfl
  have l1 : am_c 1 = 1 := rfl
  have l2 : am_c 2 = 2 := rfl
  have l3 : am_c 3 = 3 := rfl
  obtain ⟨hf, -, -, -, hway, -, -⟩ := fw_C hw (by decide)
  have f0 := hf.1.1
  have f1 := hf.1.2
  have e4 : fv ν 1 0 4 = ν 1 4 := fv_0 (by decide)
  have eW : fv ν 1 0 0 = ν 1 0 := fv_0 (by decide)
  have hd : 10 ≤ (ν 1 0).tdiv 2 ∧ (ν 1 0).tdiv 2 ≤ 100 := by rw [Int.tdiv_eq_ediv_of_nonneg (by omega)]; omega
  have cW : am_c (ν 1 0) = ν 1 0 := am_cR (by omega) (by omega)
  have cd2 : (am_c (ν 1 0)).tdiv (am_c 2) = (ν 1 0).tdiv 2 := by rw [cW]; rfl
  have hz := fp_ap_b hw b
  have hn := fp_as_b hw b ((fv ν 1) 0 4).toNat (by omega)
  have kk := fun (x : Int) (e : x = fp_ap (fv ν 1) b) => am_qe (k _ rfl hz.1 hz.2 (am_cR (by omega) (by omega))) e
  have lp4 : ∀ (m : Nat) (x i : Int) (o4 : Option am_V) , 0 ≤ i → i ≤ ν 1 4 → x = fp_as (fv ν 1) b i.toNat → ν 1 4 - i < (m : Int) → am_AW l 0 (fun _ => 0) 129 Q 4 [some (.inr (.inr 0)), some (.inl b), some (.inl x), some (.inl i), o4] [] ν := by
    intro m
    induction m with
    | zero =>
      intro x i o4  hv0 hv1 hv2 hm
      exfalso
      omega
    | succ m ih =>
      intro x i o4  hv0 hv1 hv2 hm
      have ci : am_c i = i := am_cR (by omega) (by omega)
      have cn : am_c (ν 1 4) = ν 1 4 := am_cR (by omega) (by omega)
      have bt := fun q : i < ν 1 4 => fp_bt (i := i) b0 b1 hv0 (by omega)
      have bx := fp_as_b hw b i.toNat (by omega)
      have ca := fun q : i < ν 1 4 => (show am_c (am_and (am_shr b i) 1) = am_and (am_shr b i) 1 by rcases bt q with z | z <;> rw [z] <;> rfl)
      have cx : am_c x = x := am_cR (by omega) (by omega)
      refine am_go (ct := fun pc => Nat.beq pc 4) am_oX6_apart 300 ?_
      conv => whnf
      repeat' first
        | (refine (?_ : am_wp _ _ _ _ _ _ _ _ _ _ _ _); conv => whnf)
        | (refine (?_ : am_sw _ _ _ _); conv => whnf)
        | refine And.intro trivial ?_
        | exact trivial
        | (have hi : i < ν 1 4 := (by rw [ci, cn] at *; omega); have ca := ca hi; have bt := bt hi; refine s_tenthsOver _ _ _ hw ?_ ?_ ?_ ?_ ?_ ?_ (fun v ev v0 v1 cv => ?_))
        | refine kk _ ?_
        | refine ih _ _ _  ?_ ?_ ?_ ?_
        | refine And.intro (fun h => absurd h (by decide)) (fun _ => ?_)
        | refine And.intro (fun _ => ?_) (fun h => absurd (by decide) h)
        | refine And.intro (fun _ => ?_) (fun _ => ?_)
        | refine And.intro ?_ ?_
      all_goals (first | decide | assumption | omega | (simp only [cd2]; omega) | (rw [ci, cn] at *; omega) | (rw [show (i + 1).toNat = i.toNat + 1 by omega]; simp only [fp_as]; have eh : v = fp_hf (fv ν 1) i.toNat := (by unfold fp_hf; rw [eW]; simp only [cd2] at ev; exact ev); have ei : ((i.toNat : Nat) : Int) = i := Int.toNat_of_nonneg hv0; rw [ei, if_pos (by simp only [ca, l0, l1] at *; omega), ← eh, hv2]; all_goals (first | rfl | omega)) | (rw [show (i + 1).toNat = i.toNat + 1 by omega]; simp only [fp_as]; have eh : v = fp_hf (fv ν 1) i.toNat := (by unfold fp_hf; rw [eW]; simp only [cd2] at ev; exact ev); have ei : ((i.toNat : Nat) : Int) = i := Int.toNat_of_nonneg hv0; rw [ei, if_neg (by simp only [ca, l0, l1] at *; omega), ← eh, hv2]; all_goals (first | rfl | omega)) | (unfold fp_ap; rw [e4, show (ν 1 4).toNat = i.toNat by rw [ci, cn] at *; omega, ← hv2]; first | (rw [cx]; done) | ((repeat' split) <;> first | rfl | omega | (simp only [cx, l0] at *; omega))) | (trace_state; fail))
  have lp4' : ∀ (x i : Int) (o4 : Option am_V) , 0 ≤ i → i ≤ ν 1 4 → x = fp_as (fv ν 1) b i.toNat → am_AW l 0 (fun _ => 0) 129 Q 4 [some (.inr (.inr 0)), some (.inl b), some (.inl x), some (.inl i), o4] [] ν := fun x i o4  hv0 hv1 hv2 => lp4 ((ν 1 4 - i) + 1).toNat x i o4  hv0 hv1 hv2 (by omega)
  refine am_go (ct := fun pc => Nat.beq pc 4) am_oX6_apart 300 ?_
  conv => whnf
  repeat' first
    | (refine (?_ : am_wp _ _ _ _ _ _ _ _ _ _ _ _); conv => whnf)
    | (refine (?_ : am_sw _ _ _ _); conv => whnf)
    | refine And.intro trivial ?_
    | exact trivial
    | refine lp4' _ _ _  ?_ ?_ ?_
    | refine And.intro (fun h => absurd h (by decide)) (fun _ => ?_)
    | refine And.intro (fun _ => ?_) (fun h => absurd (by decide) h)
    | refine And.intro (fun _ => ?_) (fun _ => ?_)
    | refine And.intro ?_ ?_
  all_goals (first | decide | assumption | omega | rfl | (trace_state; fail))
theorem n_apartBy {l : Launch} {ν : am_N} {Q : Option am_V → am_N → Prop} (b : Int) (hw : fp_fw 999 (mv ν)) (b0 : 0 ≤ b) (b1 : b ≤ 15) (k : ∀ v : Int, v = fp_ap (mv ν) b → 0 ≤ v → v ≤ 240000 → am_c v = v → Q (some (.inl v)) ν) : am_Does l 209 [.inr (.inr 83), .inl b] ν Q := by
  refine am_Does_of (Nat.le_of_ble_eq_true rfl) (Nat.le_of_ble_eq_true rfl) (Nat.le_of_ble_eq_true rfl) ?_
  have l0 : am_c 0 = 0 := rfl
  have l1 : am_c 1 = 1 := rfl
  have l2 : am_c 2 = 2 := rfl
  have l3 : am_c 3 = 3 := rfl
  obtain ⟨hf, -, -, -, hway, -, -⟩ := fw_M hw (by decide)
  have f0 := hf.1.1
  have f1 := hf.1.2
  have e4 : mv ν 0 4 = ν 83 14 := rfl
  have eW : mv ν 0 0 = ν 83 10 := rfl
  have hd : 10 ≤ (ν 83 10).tdiv 2 ∧ (ν 83 10).tdiv 2 ≤ 100 := by rw [Int.tdiv_eq_ediv_of_nonneg (by omega)]; omega
  have cW : am_c (ν 83 10) = ν 83 10 := am_cR (by omega) (by omega)
  have cd2 : (am_c (ν 83 10)).tdiv (am_c 2) = (ν 83 10).tdiv 2 := by rw [cW]; rfl
  have hz := fp_ap_b hw b
  have hn := fp_as_b hw b ((mv ν) 0 4).toNat (by omega)
  have kk := fun (x : Int) (e : x = fp_ap (mv ν) b) => am_qe (k _ rfl hz.1 hz.2 (am_cR (by omega) (by omega))) e
  have lp4 : ∀ (m : Nat) (x i : Int) , 0 ≤ i → i ≤ ν 83 14 → x = fp_as (mv ν) b i.toNat → ν 83 14 - i < (m : Int) → am_AW l 0 (fun _ => 0) 209 Q 4 [some (.inr (.inr 83)), some (.inl b), some (.inl x), some (.inl i)] [] ν := by
    intro m
    induction m with
    | zero =>
      intro x i  hv0 hv1 hv2 hm
      exfalso
      omega
    | succ m ih =>
      intro x i  hv0 hv1 hv2 hm
      have ci : am_c i = i := am_cR (by omega) (by omega)
      have cn : am_c (ν 83 14) = ν 83 14 := am_cR (by omega) (by omega)
      have bt := fun q : i < ν 83 14 => fp_bt (i := i) b0 b1 hv0 (by omega)
      have bx := fp_as_b hw b i.toNat (by omega)
      have ca := fun q : i < ν 83 14 => (show am_c (am_and (am_shr b i) 1) = am_and (am_shr b i) 1 by rcases bt q with z | z <;> rw [z] <;> rfl)
      have cx : am_c x = x := am_cR (by omega) (by omega)
      refine am_go (ct := fun pc => Nat.beq pc 4) am_oX7_apartBy 300 ?_
      conv => whnf
      repeat' first
        | (refine (?_ : am_wp _ _ _ _ _ _ _ _ _ _ _ _); conv => whnf)
        | (refine (?_ : am_sw _ _ _ _); conv => whnf)
        | refine And.intro trivial ?_
        | exact trivial
        | (have hi : i < ν 83 14 := (by rw [ci, cn] at *; omega); have ca := ca hi; have bt := bt hi; refine n_timeOver _ _ _ hw ?_ ?_ ?_ ?_ ?_ ?_ (fun v ev v0 v1 cv => ?_))
        | refine kk _ ?_
        | refine ih _ _  ?_ ?_ ?_ ?_
        | refine And.intro (fun h => absurd h (by decide)) (fun _ => ?_)
        | refine And.intro (fun _ => ?_) (fun h => absurd (by decide) h)
        | refine And.intro (fun _ => ?_) (fun _ => ?_)
        | refine And.intro ?_ ?_
      all_goals (first | decide | assumption | omega | (simp only [cd2]; omega) | (rw [ci, cn] at *; omega) | (rw [show (i + 1).toNat = i.toNat + 1 by omega]; simp only [fp_as]; have eh : v = fp_hf (mv ν) i.toNat := (by unfold fp_hf; rw [eW]; simp only [cd2] at ev; exact ev); have ei : ((i.toNat : Nat) : Int) = i := Int.toNat_of_nonneg hv0; rw [ei, if_pos (by simp only [ca, l0, l1] at *; omega), ← eh, hv2]; all_goals (first | rfl | omega)) | (rw [show (i + 1).toNat = i.toNat + 1 by omega]; simp only [fp_as]; have eh : v = fp_hf (mv ν) i.toNat := (by unfold fp_hf; rw [eW]; simp only [cd2] at ev; exact ev); have ei : ((i.toNat : Nat) : Int) = i := Int.toNat_of_nonneg hv0; rw [ei, if_neg (by simp only [ca, l0, l1] at *; omega), ← eh, hv2]; all_goals (first | rfl | omega)) | (unfold fp_ap; rw [e4, show (ν 83 14).toNat = i.toNat by rw [ci, cn] at *; omega, ← hv2]; first | (rw [cx]; done) | ((repeat' split) <;> first | rfl | omega | (simp only [cx, l0] at *; omega))) | (trace_state; fail))
  have lp4' : ∀ (x i : Int) , 0 ≤ i → i ≤ ν 83 14 → x = fp_as (mv ν) b i.toNat → am_AW l 0 (fun _ => 0) 209 Q 4 [some (.inr (.inr 83)), some (.inl b), some (.inl x), some (.inl i)] [] ν := fun x i  hv0 hv1 hv2 => lp4 ((ν 83 14 - i) + 1).toNat x i  hv0 hv1 hv2 (by omega)
  refine am_go (ct := fun pc => Nat.beq pc 4) am_oX7_apartBy 300 ?_
  conv => whnf
  repeat' first
    | (refine (?_ : am_wp _ _ _ _ _ _ _ _ _ _ _ _); conv => whnf)
    | (refine (?_ : am_sw _ _ _ _); conv => whnf)
    | refine And.intro trivial ?_
    | exact trivial
    | refine lp4' _ _  ?_ ?_ ?_
    | refine And.intro (fun h => absurd h (by decide)) (fun _ => ?_)
    | refine And.intro (fun _ => ?_) (fun h => absurd (by decide) h)
    | refine And.intro (fun _ => ?_) (fun _ => ?_)
    | refine And.intro ?_ ?_
  all_goals (first | decide | assumption | omega | rfl | (trace_state; fail))
theorem s_teams {l : Launch} {ν : am_N} {Q : Option am_V → am_N → Prop} (w : Int) (cw : am_c w = w) (hw : fp_fw 999 (fv ν 1)) (k : ∀ μ' : am_N, (∀ a b, a ≠ 78 → μ' a b = ν a b) → Q (some (.inl (fp_tr (fv ν 1) w))) μ') : am_Does l 82 [.inr (.inr 0), .inl w] ν Q := by
  refine am_Does_of (Nat.le_of_ble_eq_true rfl) (Nat.le_of_ble_eq_true rfl) (Nat.le_of_ble_eq_true rfl) ?_
  have l0 : am_c 0 = 0 := rfl
  have l1 : am_c 1 = 1 := rfl
  have l2 : am_c 2 = 2 := rfl
  have l3 : am_c 3 = 3 := rfl
  have m2' : am_c (-2) = -2 := rfl
  have m3' : am_c (-3) = -3 := rfl
  obtain ⟨hf, -, -, -, -, -, -⟩ := fw_C hw (by decide)
  have f0 := hf.1.1
  have f1 := hf.1.2
  have e4 : fv ν 1 0 4 = ν 1 4 := fv_0 (by decide)
  have cn : am_c (ν 1 4) = ν 1 4 := am_cR (by omega) (by omega)
  have ea : fp_al (fv ν 1) = am_shl 1 (ν 1 4) - 1 := by unfold fp_al; rw [e4]
  have ab := fun q : 2 ≤ ν 1 4 => fp_al_b q f1
  have kk := fun (x : Int) (μ' : am_N) (h : ∀ a b, a ≠ 78 → μ' a b = ν a b) (e : x = fp_tr (fv ν 1) w) => am_qe (k μ' h) e
  have lp52 : ∀ (m : Nat) (A t x b : Int) (o6 : Option am_V) , 1 ≤ b → b ≤ 15 → b % 2 = 1 → (b = 1 ∧ x = -1 ∧ t = 1) ∨ (3 ≤ b ∧ x = fp_ap (fv ν 1) t ∧ (0 ≤ t ∧ t ≤ 15) ∧ fp_tm (fv ν 1) (8 - b / 2).toNat b t = fp_bs (fv ν 1)) → A = am_shl 1 (ν 1 4) - 1 → (w = 0 ∨ w = 1) → 2 ≤ ν 1 4 → 16 - b < (m : Int) → am_AW l 0 (fun _ => 0) 82 Q 52 [some (.inr (.inr 0)), some (.inl w), some (.inl A), some (.inl t), some (.inl x), some (.inl b), o6] [] ν := by
    intro m
    induction m with
    | zero =>
      intro A t x b o6  hv0 hv1 hv2 hv3 hv4 hv5 hv6 hm
      exfalso
      omega
    | succ m ih =>
      intro A t x b o6  hv0 hv1 hv2 hv3 hv4 hv5 hv6 hm
      have cb : am_c b = b := am_cR (by omega) (by omega)
      have ab := ab hv6
      have cA : am_c A = am_shl 1 (ν 1 4) - 1 := by rw [hv4]; exact am_cR (by omega) (by omega)
      have bx : -1 ≤ x ∧ x ≤ 240000 := by rcases hv3 with q | q; (omega); (have z := fp_ap_b hw t; omega)
      have cx : am_c x = x := am_cR (by omega) (by omega)
      have x0 := fun q : 3 ≤ b => (show 0 ≤ x by rcases hv3 with y | y; (omega); (have z := fp_ap_b hw t; omega))
      refine am_go (ct := fun pc => Nat.beq pc 52) am_oX6_teams 300 ?_
      conv => whnf
      repeat' first
        | (refine (?_ : am_wp _ _ _ _ _ _ _ _ _ _ _ _); conv => whnf)
        | (refine (?_ : am_sw _ _ _ _); conv => whnf)
        | refine And.intro trivial ?_
        | exact trivial
        | refine s_apart _ hw ?_ ?_ (fun v ev v0 v1 cv => ?_)
        | refine kk _ _ (fun _ _ _ => rfl) ?_
        | refine x_noPart _ cw (fun z => ?_) (fun z => ?_)
        | refine x_refuse _ ?_ (fun μr fr => ?_)
        | refine kk _ _ fr ?_
        | refine ih _ _ _ _ _  ?_ ?_ ?_ ?_ ?_ ?_ ?_ ?_
        | refine And.intro (fun h => absurd h (by decide)) (fun _ => ?_)
        | refine And.intro (fun _ => ?_) (fun h => absurd (by decide) h)
        | refine And.intro (fun _ => ?_) (fun _ => ?_)
        | refine And.intro ?_ ?_
      all_goals (first | decide | assumption | omega | (simp only [cA, cb] at *; omega) | (have bl : b < fp_al (fv ν 1) := (by rw [ea]; simp only [cA, cb] at *; omega); rcases hv3 with ⟨q1, q2, q3⟩ | ⟨q1, q2, q3, q4⟩; (first | (exfalso; simp only [cx, l0] at *; omega) | (subst q1; refine Or.inr ⟨by decide, ?_, by omega, ?_⟩; (first | exact ev | (rw [q3]; exact ev)); (first | rfl | (rw [q3]; rfl)))); (have x0 := x0 q1; refine Or.inr ⟨by omega, ?_, by omega, ?_⟩; (first | exact ev | exact q2); (rw [← q4, fp_tm_s bl (by omega) (by omega)]; first | (rw [if_pos (by rw [← ev, ← q2]; simp only [cv, cx] at *; omega)]) | (rw [if_neg (by rw [← ev, ← q2]; simp only [cv, cx] at *; omega)])))) | (have z := fp_tm_z (F := (fv ν 1)) (b := b) (t := t) (by rw [ea]; simp only [cA, cb] at *; omega) (8 - b / 2).toNat; have hz : 3 ≤ b ∧ x = fp_ap (fv ν 1) t ∧ (0 ≤ t ∧ t ≤ 15) ∧ fp_tm (fv ν 1) (8 - b / 2).toNat b t = fp_bs (fv ν 1) := (by rcases hv3 with q | q; (exfalso; simp only [cA, cb] at *; omega); exact q); have zt : t = fp_bs (fv ν 1) := z.symm.trans hz.2.2.2; unfold fp_tr; rw [e4, if_neg (by omega), if_neg (by omega)]; first | (rw [if_pos (by simp only [cw, l0] at *; omega)]; exact zt) | (rw [if_neg (by simp only [cw, l0] at *; omega), ← zt]; exact hz.2.1)) | (trace_state; fail))
  have lp52' : ∀ (A t x b : Int) (o6 : Option am_V) , 1 ≤ b → b ≤ 15 → b % 2 = 1 → (b = 1 ∧ x = -1 ∧ t = 1) ∨ (3 ≤ b ∧ x = fp_ap (fv ν 1) t ∧ (0 ≤ t ∧ t ≤ 15) ∧ fp_tm (fv ν 1) (8 - b / 2).toNat b t = fp_bs (fv ν 1)) → A = am_shl 1 (ν 1 4) - 1 → (w = 0 ∨ w = 1) → 2 ≤ ν 1 4 → am_AW l 0 (fun _ => 0) 82 Q 52 [some (.inr (.inr 0)), some (.inl w), some (.inl A), some (.inl t), some (.inl x), some (.inl b), o6] [] ν := fun A t x b o6  hv0 hv1 hv2 hv3 hv4 hv5 hv6 => lp52 ((16 - b) + 1).toNat A t x b o6  hv0 hv1 hv2 hv3 hv4 hv5 hv6 (by omega)
  refine am_go (ct := fun pc => Nat.beq pc 52) am_oX6_teams 300 ?_
  conv => whnf
  repeat' first
    | (refine (?_ : am_wp _ _ _ _ _ _ _ _ _ _ _ _); conv => whnf)
    | (refine (?_ : am_sw _ _ _ _); conv => whnf)
    | refine And.intro trivial ?_
    | exact trivial
    | refine x_noPart _ cw (fun z => ?_) (fun z => ?_)
    | refine x_refuse _ ?_ (fun μr fr => ?_)
    | refine kk _ _ fr ?_
    | refine lp52' _ _ _ _ _  ?_ ?_ ?_ ?_ ?_ ?_ ?_
    | refine And.intro (fun h => absurd h (by decide)) (fun _ => ?_)
    | refine And.intro (fun _ => ?_) (fun h => absurd (by decide) h)
    | refine And.intro (fun _ => ?_) (fun _ => ?_)
    | refine And.intro ?_ ?_
  all_goals (first | decide | assumption | omega | rfl | (simp only [cn, l2] at *; omega) | (exact Or.inl ⟨rfl, rfl, rfl⟩) | (unfold fp_tr; rw [e4, if_pos (by omega)]; done) | (unfold fp_tr; rw [e4, if_neg (by omega), if_pos (by simp only [cn, l2] at *; omega)]; done) | (trace_state; fail))
theorem n_teams {l : Launch} {ν : am_N} {Q : Option am_V → am_N → Prop} (w : Int) (cw : am_c w = w) (hw : fp_fw 999 (mv ν)) (k : ∀ μ' : am_N, (∀ a b, a ≠ 84 → μ' a b = ν a b) → Q (some (.inl (fp_tr (mv ν) w))) μ') : am_Does l 210 [.inr (.inr 83), .inl w] ν Q := by
  refine am_Does_of (Nat.le_of_ble_eq_true rfl) (Nat.le_of_ble_eq_true rfl) (Nat.le_of_ble_eq_true rfl) ?_
  have l0 : am_c 0 = 0 := rfl
  have l1 : am_c 1 = 1 := rfl
  have l2 : am_c 2 = 2 := rfl
  have l3 : am_c 3 = 3 := rfl
  have m2' : am_c (-2) = -2 := rfl
  have m3' : am_c (-3) = -3 := rfl
  obtain ⟨hf, -, -, -, -, -, -⟩ := fw_M hw (by decide)
  have f0 := hf.1.1
  have f1 := hf.1.2
  have e4 : mv ν 0 4 = ν 83 14 := rfl
  have cn : am_c (ν 83 14) = ν 83 14 := am_cR (by omega) (by omega)
  have ea : fp_al (mv ν) = am_shl 1 (ν 83 14) - 1 := by unfold fp_al; rw [e4]
  have ab := fun q : 2 ≤ ν 83 14 => fp_al_b q f1
  have kk := fun (x : Int) (μ' : am_N) (h : ∀ a b, a ≠ 84 → μ' a b = ν a b) (e : x = fp_tr (mv ν) w) => am_qe (k μ' h) e
  have lp44 : ∀ (m : Nat) (y t b : Int) , 3 ≤ b → b ≤ 17 → b % 2 = 1 → (0 ≤ t ∧ t ≤ 15) → fp_tm (mv ν) (8 - b / 2).toNat b t = fp_bs (mv ν) → (w = 0 ∨ w = 1) → 2 ≤ ν 83 14 → 18 - b < (m : Int) → am_AW l 0 (fun _ => 0) 210 Q 44 [some (.inr (.inr 83)), some (.inl w), some (.inl y), some (.inl t), some (.inl b)] [] ν := by
    intro m
    induction m with
    | zero =>
      intro y t b  hv0 hv1 hv2 hv3 hv4 hv5 hv6 hm
      exfalso
      omega
    | succ m ih =>
      intro y t b  hv0 hv1 hv2 hv3 hv4 hv5 hv6 hm
      have cb : am_c b = b := am_cR (by omega) (by omega)
      have ab := ab hv6
      have cA : am_c (am_shl 1 (ν 83 14) - 1) = am_shl 1 (ν 83 14) - 1 := am_cR (by omega) (by omega)
      refine am_go (ct := fun pc => Nat.beq pc 44) am_oX7_teams 300 ?_
      conv => whnf
      repeat' first
        | (refine (?_ : am_wp _ _ _ _ _ _ _ _ _ _ _ _); conv => whnf)
        | (refine (?_ : am_sw _ _ _ _); conv => whnf)
        | refine And.intro trivial ?_
        | exact trivial
        | (have _q := ev; refine n_apartBy _ hw ?_ ?_ (fun u eu u0 u1 cu => ?_))
        | refine n_apartBy _ hw ?_ ?_ (fun v ev v0 v1 cv => ?_)
        | refine kk _ _ (fun _ _ _ => rfl) ?_
        | refine x_isIn w _ _ _ rfl cw ?_ ?_ (fun _ _ => ?_) (fun _ => ?_)
        | refine x_no _ ?_ (fun μr fr => ?_)
        | refine And.intro (fun h => absurd h (by omega)) (fun _ => ?_)
        | refine And.intro (fun _ => ?_) (fun h => absurd h (by omega))
        | refine kk _ _ fr ?_
        | refine ih _ _ _  ?_ ?_ ?_ ?_ ?_ ?_ ?_ ?_
        | refine And.intro (fun h => absurd h (by decide)) (fun _ => ?_)
        | refine And.intro (fun _ => ?_) (fun h => absurd (by decide) h)
        | refine And.intro (fun _ => ?_) (fun _ => ?_)
        | refine And.intro ?_ ?_
      all_goals (first | decide | assumption | omega | (simp only [cA, cb] at *; omega) | (have bl : b < fp_al (mv ν) := (by rw [ea]; simp only [cA, cb] at *; omega); rw [← hv4, fp_tm_s bl (by omega) (by omega)]; first | (rw [if_pos (by rw [← ev, ← eu]; simp only [cv, cu] at *; omega)]) | (rw [if_neg (by rw [← ev, ← eu]; simp only [cv, cu] at *; omega)])) | (have z := fp_tm_z (F := (mv ν)) (b := b) (t := t) (by rw [ea]; simp only [cA, cb] at *; omega) (8 - b / 2).toNat; have zt : t = fp_bs (mv ν) := z.symm.trans hv4; unfold fp_tr; rw [e4, if_neg (by omega), if_neg (by omega)]; first | (rw [if_pos (by simp only [cw, l0] at *; omega)]; exact zt) | (rw [if_neg (by simp only [cw, l0] at *; omega), ← zt]; exact ev)) | (trace_state; fail))
  have lp44' : ∀ (y t b : Int) , 3 ≤ b → b ≤ 17 → b % 2 = 1 → (0 ≤ t ∧ t ≤ 15) → fp_tm (mv ν) (8 - b / 2).toNat b t = fp_bs (mv ν) → (w = 0 ∨ w = 1) → 2 ≤ ν 83 14 → am_AW l 0 (fun _ => 0) 210 Q 44 [some (.inr (.inr 83)), some (.inl w), some (.inl y), some (.inl t), some (.inl b)] [] ν := fun y t b  hv0 hv1 hv2 hv3 hv4 hv5 hv6 => lp44 ((18 - b) + 1).toNat y t b  hv0 hv1 hv2 hv3 hv4 hv5 hv6 (by omega)
  refine am_go (ct := fun pc => Nat.beq pc 44) am_oX7_teams 300 ?_
  conv => whnf
  repeat' first
    | (refine (?_ : am_wp _ _ _ _ _ _ _ _ _ _ _ _); conv => whnf)
    | (refine (?_ : am_sw _ _ _ _); conv => whnf)
    | refine And.intro trivial ?_
    | exact trivial
    | refine x_isIn w _ _ _ rfl cw ?_ ?_ (fun _ _ => ?_) (fun _ => ?_)
    | refine x_no _ ?_ (fun μr fr => ?_)
    | refine And.intro (fun h => absurd h (by omega)) (fun _ => ?_)
    | refine And.intro (fun _ => ?_) (fun h => absurd h (by omega))
    | refine kk _ _ fr ?_
    | refine lp44' _ _ _  ?_ ?_ ?_ ?_ ?_ ?_ ?_
    | refine And.intro (fun h => absurd h (by decide)) (fun _ => ?_)
    | refine And.intro (fun _ => ?_) (fun h => absurd (by decide) h)
    | refine And.intro (fun _ => ?_) (fun _ => ?_)
    | refine And.intro ?_ ?_
  all_goals (first | decide | assumption | omega | rfl | (simp only [cn, l2] at *; omega) | (unfold fp_tr; rw [e4, if_pos (by omega)]; done) | (unfold fp_tr; rw [e4, if_neg (by omega), if_pos (by simp only [cn, l2] at *; omega)]; done) | (trace_state; fail))
/-! who lets another win -/
theorem fp_orF : ∀ (x : Fin 16), am_or ((x : Nat) : Int) 0 = ((x : Nat) : Int) := by decide +kernel
theorem fp_or0 {x : Int} (h0 : 0 ≤ x) (h1 : x ≤ 15) : am_or x 0 = x := by
  have h := fp_orF ⟨x.toNat, by omega⟩
  simp only [Int.toNat_of_nonneg h0] at h
  exact h
theorem fp_orG : ∀ (x : Fin 16) (i : Fin 4), 0 ≤ am_or ((x : Nat) : Int) (am_shl 1 ((i : Nat) : Int)) ∧ am_or ((x : Nat) : Int) (am_shl 1 ((i : Nat) : Int)) ≤ 15 := by decide +kernel
theorem fp_or1 {x i : Int} (h0 : 0 ≤ x) (h1 : x ≤ 15) (i0 : 0 ≤ i) (i1 : i < 4) : 0 ≤ am_or x (am_shl 1 i) ∧ am_or x (am_shl 1 i) ≤ 15 := by
  have h := fp_orG ⟨x.toNat, by omega⟩ ⟨i.toNat, by omega⟩
  simp only [Int.toNat_of_nonneg h0, Int.toNat_of_nonneg i0] at h
  exact h
/-- the field with one as a RUNNER -/
def fp_k0 (F : am_N) (i : Nat) : am_N := fp_ct (am_up F 1 i 0)
theorem fw_k0 {W : Int} {F : am_N} {i : Nat} (h : fp_fw W F) : fp_fw W (fp_k0 F i) := by
  refine fw_ct ?_
  obtain ⟨h0, h1, h2, h3, h4, h5, h6⟩ := h
  have e : ∀ a b : Nat, a ≠ 1 → am_up F 1 i 0 a b = F a b := fun a b q => am_upN q
  unfold fp_fw
  rw [e 0 0 (by decide), e 0 1 (by decide), e 0 2 (by decide), e 0 3 (by decide), e 0 4 (by decide)]
  refine ⟨h0, h1, h2, h3, h4, fun j hj => ?_, fun j hj => ?_⟩
  · rw [e 5 j (by decide)]; exact h5 j hj
  · rw [e 2 j (by decide), e 3 j (by decide), e 4 j (by decide)]
    obtain ⟨q1, q2, q3, q4⟩ := h6 j hj
    refine ⟨?_, q2, q3, q4⟩
    by_cases d : j = i
    · rw [am_upS, if_pos ⟨rfl, d⟩]; exact ⟨by decide, by decide⟩
    · rw [am_upM d]; exact q1
def fp_lb (F : am_N) : Nat → Int
  | 0 => 0
  | i + 1 => if fp_f (fp_k0 F i) = fp_f F then fp_lb F i else am_or (fp_lb F i) (am_shl 1 i)
theorem fp_lb_b (F : am_N) : ∀ i : Nat, i ≤ 4 → 0 ≤ fp_lb F i ∧ fp_lb F i ≤ 15 := by
  intro i
  induction i with
  | zero => intro _; exact ⟨(by first | exact Int.le_refl 0 | (show (0 : Int) ≤ 1; decide) | (show (0 : Int) ≤ _; decide) | (show _ ≤ (0 : Int); decide) | (show (1 : Int) ≤ _; decide) | (show (0 : Int) < _; decide)), (by first | exact Int.le_refl 0 | (show (0 : Int) ≤ 1; decide) | (show (0 : Int) ≤ _; decide) | (show _ ≤ (0 : Int); decide) | (show (1 : Int) ≤ _; decide) | (show (0 : Int) < _; decide))⟩
  | succ i ih =>
    intro hi
    have q := ih (by omega)
    simp only [fp_lb]
    split
    · exact q
    · exact fp_or1 q.1 q.2 (by omega) (by omega)
/-- the answer of let() -/
def fp_le (F : am_N) : Int := if F 0 4 = 0 then -3 else fp_lb F (F 0 4).toNat
theorem fv_tk {μ ν : am_N} (h0 : ∀ b : Nat, b < 5 → μ 8 b = ν 1 b) (h1 : ∀ a : Nat, 0 < a → a < 7 → ∀ b : Nat, b < 4 → μ (8 + a) b = ν (1 + a) b) : fv μ 8 = fv ν 1 := fp_ct_e (fun b hb => h0 b hb) (fun a b q1 q2 q3 => h1 a q1 q2 b q3)
theorem sx_lt {ν μ : am_N} (hS : sx ν ν) (f : ∀ a b, ¬(8 ≤ a ∧ a < 15) → a ≠ 33 → a ≠ 34 → ¬(a = 29 ∧ b = 0) → a ≠ 78 → μ a b = ν a b) (h34 : sx_3 μ 34) (h8 : 0 ≤ μ 8 4 ∧ μ 8 4 ≤ 4) (h29 : 0 ≤ μ 29 0 ∧ μ 29 0 ≤ 4) : sx ν μ := by
  have p : ∀ a, sx_p a = true → ¬(8 ≤ a ∧ a < 15) ∧ a ≠ 33 ∧ a ≠ 34 ∧ a ≠ 29 ∧ a ≠ 78 := fun a ha => by
    refine ⟨fun z => ?_, fun z => ?_, fun z => ?_, fun z => ?_, fun z => ?_⟩
    · rcases (show a = 8 ∨ a = 9 ∨ a = 10 ∨ a = 11 ∨ a = 12 ∨ a = 13 ∨ a = 14 by omega) with rfl | rfl | rfl | rfl | rfl | rfl | rfl <;> cases ha
    all_goals (rw [z] at ha; cases ha)
  refine ⟨fun a b ha => f a b (p a ha).1 (p a ha).2.1 (p a ha).2.2.1 (fun z => (p a ha).2.2.2.1 z.1) (p a ha).2.2.2.2, h34, fun q hq => ?_, ⟨h8, ?_, h29, ?_⟩, hS.2.2.2.2⟩
  · rw [f 43 q (by omega) (by omega) (by omega) (by omega) (by omega)]; exact hS.2.2.1 q hq
  · rw [f 15 4 (by omega) (by omega) (by omega) (by omega) (by omega)]; exact hS.2.2.2.1.2.1
  · rw [f 38 0 (by omega) (by omega) (by omega) (by omega) (by omega)]; exact hS.2.2.2.1.2.2.2
theorem s_let {l : Launch} {ν : am_N} {Q : Option am_V → am_N → Prop} (hS : sx ν ν) (hw : fp_fw 999 (fv ν 1)) (k : ∀ μ' : am_N, sx ν μ' → Q (some (.inl (fp_le (fv ν 1)))) μ') : am_Does l 85 [.inr (.inr 0)] ν Q := by
  refine am_Does_of (Nat.le_of_ble_eq_true rfl) (Nat.le_of_ble_eq_true rfl) (Nat.le_of_ble_eq_true rfl) ?_
  have l0 : am_c 0 = 0 := rfl
  have l1 : am_c 1 = 1 := rfl
  have l2 : am_c 2 = 2 := rfl
  have l3 : am_c 3 = 3 := rfl
  obtain ⟨hf, -, -, -, -, -, -⟩ := fw_C hw (by decide)
  have f0 := hf.1.1
  have f1 := hf.1.2
  have e4 : fv ν 1 0 4 = ν 1 4 := fv_0 (by decide)
  have cn : am_c (ν 1 4) = ν 1 4 := am_cR (by omega) (by omega)
  have fb := fp_f_b (fv ν 1)
  have h15 := hS.2.2.2.1
  have kk := fun (x : Int) (μ' : am_N) (h : sx ν μ') (e : x = fp_le (fv ν 1)) => am_qe (k μ' h) e
  have lp40 : ∀ (m : Nat) (g x i : Int) (μ : am_N) , (∀ a b, ¬(8 ≤ a ∧ a < 15) → a ≠ 33 → a ≠ 34 → ¬(a = 29 ∧ b = 0) → μ a b = ν a b) → 0 ≤ i → i ≤ ν 1 4 → x = fp_lb (fv ν 1) i.toNat → g = fp_f (fv ν 1) → sx_3 μ 34 → (0 ≤ μ 8 4 ∧ μ 8 4 ≤ 4) → (0 ≤ μ 29 0 ∧ μ 29 0 ≤ 4) → 1 ≤ ν 1 4 → ν 1 4 - i < (m : Int) → am_AW l 0 (fun _ => 0) 85 Q 40 [some (.inr (.inr 0)), some (.inl g), some (.inl x), some (.inl i)] [] μ := by
    intro m
    induction m with
    | zero =>
      intro g x i μ hv0 hv1 hv2 hv3 hv4 hv5 hv6 hv7 hv8 hm
      exfalso
      omega
    | succ m ih =>
      intro g x i μ hv0 hv1 hv2 hv3 hv4 hv5 hv6 hv7 hv8 hm
      have ci : am_c i = i := am_cR (by omega) (by omega)
      have e14 : μ 1 4 = ν 1 4 := hv0 1 4 (by omega) (by omega) (by omega) (by omega)
      have sE : sx ν μ := sx_lt hS (fun a b q1 q2 q3 q4 _ => hv0 a b q1 q2 q3 q4) hv5 hv6 hv7
      have eF : fv μ 1 = (fv ν 1) := fv_keep (fun a b q1 q2 => hv0 a b (by omega) (by omega) (by omega) (by omega))
      have wk := fw_k0 (i := i.toNat) hw
      have kb := fp_f_b (fp_k0 (fv ν 1) i.toNat)
      have cg : am_c g = g := am_cR (by omega) (by omega)
      have ch : am_c (fp_f (fp_k0 (fv ν 1) i.toNat)) = fp_f (fp_k0 (fv ν 1) i.toNat) := am_cR (by omega) (by omega)
      refine am_go (ct := fun pc => Nat.beq pc 40) am_oX6_let 300 ?_
      conv => whnf
      repeat' first
        | (refine (?_ : am_wp _ _ _ _ _ _ _ _ _ _ _ _); conv => whnf)
        | (refine (?_ : am_sw _ _ _ _); conv => whnf)
        | refine And.intro trivial ?_
        | exact trivial
        | (have hi : i < ν 1 4 := (by rw [ci, e14, cn] at *; omega); refine x_take_8_1 (fun μ1 g1 s1 r1 => ?_); have p1 : fv μ1 8 = fv ν 1 := (fv_tk s1 r1).trans eF)
        | (have p2 : fv (am_up μ1 9 (am_c i).toNat 0) 8 = fp_k0 (fv ν 1) i.toNat := (by rw [ci, show fv (am_up μ1 9 i.toNat 0) 8 = fp_ct (am_up (fv μ1 8) 1 i.toNat 0) from fv_up (c := 8) (a := 1) (by decide), p1]; rfl); have hf2 : am_fC (am_up μ1 9 (am_c i).toNat 0) 8 := (fw_C (by rw [p2]; exact wk) (by decide)).1; have n84 : am_up μ1 9 (am_c i).toNat 0 8 4 = ν 1 4 := ((am_upN (by decide)).trans (s1 4 (by decide))).trans e14; have fr8 : ∀ a b, ¬(8 ≤ a ∧ a < 15) → am_up μ1 9 (am_c i).toNat 0 a b = μ1 a b := (fun a b q => am_upN (by omega)); refine x_asRule_29_8 hf2 (fun μ2 g2 n2 o2 t2 b2 => ?_); have w2 : μ2 34 0 = fp_f (fp_k0 (fv ν 1) i.toNat) := (by rw [fp_od_o (by rw [n84]; exact f1) o2 0 (by rw [n84]; omega), ← p2]; exact fv_f (by rw [n84]; exact f1)))
        | refine x_first_29_8 (fp_f (fp_k0 (fv ν 1) i.toNat)) w2 ?_ ?_ ?_
        | refine kk _ _ sE ?_
        | refine x_refuse _ ?_ (fun μr fr => ?_)
        | (have n1 : 1 ≤ ν 1 4 := (by rw [cn] at *; omega); refine x_asRule_29_1 hf (fun μ1 g1 n1 o1 t1 b1 => ?_); have w1 : μ1 34 0 = fp_f (fv ν 1) := (fp_od_o f1 o1 0 (by omega)).trans (fv_f f1))
        | refine x_first_29_1 (fp_f (fv ν 1)) w1 ?_ ?_ ?_
        | refine kk _ _ (sx_78 hS fr) ?_
        | refine ih _ _ _ _ ?_ ?_ ?_ ?_ ?_ ?_ ?_ ?_ ?_ ?_
        | refine And.intro (fun h => absurd h (by decide)) (fun _ => ?_)
        | refine And.intro (fun _ => ?_) (fun h => absurd (by decide) h)
        | refine And.intro (fun _ => ?_) (fun _ => ?_)
        | refine And.intro ?_ ?_
      all_goals (first | decide | omega | (rw [n2, n84]; omega) | (rw [ci]; omega) | (intro a b q1 q2 q3 q4; exact (g2 a b q2 q3 q4).trans ((fr8 a b q1).trans ((g1 a b q1).trans (hv0 a b q1 q2 q3 q4)))) | (refine b2 (sx_3N (fun p hp => ?_) (by decide)); rw [g1 34 p (by omega)]; exact hv5 p hp) | (rw [g2 8 4 (by decide) (by decide) (by omega), n84]; omega) | exact hv4 | (rw [show (i + 1).toNat = i.toNat + 1 by omega]; simp only [fp_lb]; have ei : ((i.toNat : Nat) : Int) = i := Int.toNat_of_nonneg hv1; rw [hv3, ei]; first | (rw [if_pos (by rw [← hv4]; simp only [cg, ch] at *; omega)]) | (rw [if_neg (by rw [← hv4]; simp only [cg, ch] at *; omega)])) | (unfold fp_le; rw [e4, if_neg (by omega), hv3, show i.toNat = (ν 1 4).toNat by rw [ci, e14, cn] at *; omega]) | (trace_state; fail))
  have lp40' : ∀ (g x i : Int) (μ : am_N) , (∀ a b, ¬(8 ≤ a ∧ a < 15) → a ≠ 33 → a ≠ 34 → ¬(a = 29 ∧ b = 0) → μ a b = ν a b) → 0 ≤ i → i ≤ ν 1 4 → x = fp_lb (fv ν 1) i.toNat → g = fp_f (fv ν 1) → sx_3 μ 34 → (0 ≤ μ 8 4 ∧ μ 8 4 ≤ 4) → (0 ≤ μ 29 0 ∧ μ 29 0 ≤ 4) → 1 ≤ ν 1 4 → am_AW l 0 (fun _ => 0) 85 Q 40 [some (.inr (.inr 0)), some (.inl g), some (.inl x), some (.inl i)] [] μ := fun g x i μ hv0 hv1 hv2 hv3 hv4 hv5 hv6 hv7 hv8 => lp40 ((ν 1 4 - i) + 1).toNat g x i μ hv0 hv1 hv2 hv3 hv4 hv5 hv6 hv7 hv8 (by omega)
  refine am_go (ct := fun pc => Nat.beq pc 40) am_oX6_let 300 ?_
  conv => whnf
  repeat' first
    | (refine (?_ : am_wp _ _ _ _ _ _ _ _ _ _ _ _); conv => whnf)
    | (refine (?_ : am_sw _ _ _ _); conv => whnf)
    | refine And.intro trivial ?_
    | exact trivial
    | refine x_refuse _ ?_ (fun μr fr => ?_)
    | (have n1 : 1 ≤ ν 1 4 := (by rw [cn] at *; omega); refine x_asRule_29_1 hf (fun μ1 g1 n1 o1 t1 b1 => ?_); have w1 : μ1 34 0 = fp_f (fv ν 1) := (fp_od_o f1 o1 0 (by omega)).trans (fv_f f1))
    | refine x_first_29_1 (fp_f (fv ν 1)) w1 ?_ ?_ ?_
    | refine kk _ _ (sx_78 hS fr) ?_
    | refine lp40' _ _ _ _ ?_ ?_ ?_ ?_ ?_ ?_ ?_ ?_ ?_
    | refine And.intro (fun h => absurd h (by decide)) (fun _ => ?_)
    | refine And.intro (fun _ => ?_) (fun h => absurd (by decide) h)
    | refine And.intro (fun _ => ?_) (fun _ => ?_)
    | refine And.intro ?_ ?_
  all_goals (first | decide | omega | (rw [n1]; omega) | rfl | (intro a b q1 q2 q3 q4; exact g1 a b q2 q3 q4) | exact b1 hS.2.1 | (rw [g1 8 4 (by decide) (by decide) (by omega)]; first | exact h15.1 | exact h15.1.1 | exact h15.1.2) | (unfold fp_le; rw [e4, if_pos (by rw [cn] at *; omega)]) | (trace_state; fail))
theorem n_let {l : Launch} {ν : am_N} {Q : Option am_V → am_N → Prop} (hm : mi ν) (hw : fp_fw 999 (mv ν)) (k : ∀ μ' : am_N, gm ms ν μ' → Q (some (.inl (fp_le (mv ν)))) μ') : am_Does l 212 [.inr (.inr 83)] ν Q := by
  refine am_Does_of (Nat.le_of_ble_eq_true rfl) (Nat.le_of_ble_eq_true rfl) (Nat.le_of_ble_eq_true rfl) ?_
  have l0 : am_c 0 = 0 := rfl
  have l1 : am_c 1 = 1 := rfl
  have l2 : am_c 2 = 2 := rfl
  have l3 : am_c 3 = 3 := rfl
  obtain ⟨hf, -, -, -, -, -, hx⟩ := fw_M hw (by decide)
  have f0 := hf.1.1
  have f1 := hf.1.2
  have e4 : mv ν 0 4 = ν 83 14 := rfl
  have cn : am_c (ν 83 14) = ν 83 14 := am_cR (by omega) (by omega)
  have fb := fp_f_b (mv ν)
  have kk := fun (x : Int) (μ' : am_N) (h : gm ms ν μ') (e : x = fp_le (mv ν)) => am_qe (k μ' h) e
  have hm0 := hm
  have lp29 : ∀ (m : Nat) (g x i : Int) (o4 : Option am_V) (μ : am_N) , (∀ a b, a ≠ 99 → a ≠ 100 → μ a b = ν a b) → 0 ≤ i → i ≤ ν 83 14 → x = fp_lb (mv ν) i.toNat → g = fp_f (mv ν) → sx_3 μ 100 → 1 ≤ ν 83 14 → ν 83 14 - i < (m : Int) → am_AW l 0 (fun _ => 0) 212 Q 29 [some (.inr (.inr 83)), some (.inl g), some (.inl x), some (.inl i), o4] [] μ := by
    intro m
    induction m with
    | zero =>
      intro g x i o4 μ hv0 hv1 hv2 hv3 hv4 hv5 hv6 hm
      exfalso
      omega
    | succ m ih =>
      intro g x i o4 μ hv0 hv1 hv2 hv3 hv4 hv5 hv6 hm
      have ci : am_c i = i := am_cR (by omega) (by omega)
      have e14 : μ 83 14 = ν 83 14 := hv0 83 14 (by decide) (by decide)
      have sE : gm ms ν μ := ⟨mi_rc hm0 (fun a b q => hv0 a b (by omega) (by omega)) hv5, fun a b ha => hv0 a b (fun z => by rw [z] at ha; cases ha) (fun z => by rw [z] at ha; cases ha)⟩
      have eF : mv μ = (mv ν) := mv_keep (fun a b q => hv0 a b (by omega) (by omega))
      have wk := fw_k0 (i := i.toNat) hw
      have kb := fp_f_b (fp_k0 (mv ν) i.toNat)
      have cg : am_c g = g := am_cR (by omega) (by omega)
      have ch : am_c (fp_f (fp_k0 (mv ν) i.toNat)) = fp_f (fp_k0 (mv ν) i.toNat) := am_cR (by omega) (by omega)
      have lb := fp_lb_b (mv ν) i.toNat (by omega)
      refine am_go (ct := fun pc => Nat.beq pc 29) am_oX7_let 300 ?_
      conv => whnf
      repeat' first
        | (refine (?_ : am_wp _ _ _ _ _ _ _ _ _ _ _ _); conv => whnf)
        | (refine (?_ : am_sw _ _ _ _); conv => whnf)
        | refine And.intro trivial ?_
        | exact trivial
        | (have hi : i < ν 83 14 := (by rw [ci, e14, cn] at *; omega); have p2 : mv (am_up μ 85 (am_c i).toNat 0) = fp_k0 (mv ν) i.toNat := (by rw [ci, show mv (am_up μ 85 i.toNat 0) = fp_ct (am_up (mv μ) 1 i.toNat 0) from mv_up (a := 0), eF]; rfl); have hf2 : am_fM (am_up μ 85 (am_c i).toNat 0) := (fw_M (by rw [p2]; exact wk) (by decide)).1; have n84 : am_up μ 85 (am_c i).toNat 0 83 14 = ν 83 14 := (am_upN (by decide)).trans e14; refine x_takesTimes hf2 (fun μ2 g2 o2 t2 b2 => ?_); have w2 : μ2 100 (am_c 0).toNat = fp_f (fp_k0 (mv ν) i.toNat) := (by rw [show (am_c 0).toNat = 0 from rfl, fp_od_o (by rw [n84]; exact f1) o2 0 (by rw [n84]; omega), ← p2]; exact mv_f (by rw [n84]; exact f1)))
        | refine kk _ _ sE ?_
        | refine x_no _ ?_ (fun μr fr => ?_)
        | (have n1 : 1 ≤ ν 83 14 := (by rw [cn] at *; omega); refine x_takesTimes hf (fun μ1 g1 o1 t1 b1 => ?_); have w1 : μ1 100 (am_c 0).toNat = fp_f (mv ν) := (fp_od_o f1 o1 0 (by omega)).trans (mv_f f1))
        | refine kk _ _ (mi_84 hm fr) ?_
        | refine ih _ _ _ _ _ ?_ ?_ ?_ ?_ ?_ ?_ ?_ ?_
        | refine And.intro (fun h => absurd h (by decide)) (fun _ => ?_)
        | refine And.intro (fun _ => ?_) (fun h => absurd (by decide) h)
        | refine And.intro (fun _ => ?_) (fun _ => ?_)
        | refine And.intro ?_ ?_
      all_goals (first | decide | omega | (rw [ci]; omega) | (rw [ci]; simp only [ci, e14, cn] at *; omega) | (intro a b q1 q2; by_cases d : a = 85; (subst d; by_cases c : b = (am_c i).toNat; (rw [am_upS, if_pos ⟨rfl, c⟩, c]; exact hv0 85 _ (by decide) (by decide)); (rw [am_upM c, g2 85 b (by decide) (by decide), am_upM c]; exact hv0 85 b q1 q2)); (rw [am_upN d, g2 a b q1 q2, am_upN d]; exact hv0 a b q1 q2)) | (refine sx_3N (b2 (sx_3N hv5 (by decide))) (by decide)) | exact hv4 | (rw [show (i + 1).toNat = i.toNat + 1 by omega]; simp only [fp_lb]; have ei : ((i.toNat : Nat) : Int) = i := Int.toNat_of_nonneg hv1; rw [hv3, ei]; first | (rw [if_pos (by rw [← hv4]; simp only [w2, cg, ch] at *; omega)]; exact fp_or0 lb.1 lb.2) | (rw [if_neg (by rw [← hv4]; simp only [w2, cg, ch] at *; omega)])) | (unfold fp_le; rw [e4, if_neg (by omega), hv3, show i.toNat = (ν 83 14).toNat by rw [ci, e14, cn] at *; omega]) | (trace_state; fail))
  have lp29' : ∀ (g x i : Int) (o4 : Option am_V) (μ : am_N) , (∀ a b, a ≠ 99 → a ≠ 100 → μ a b = ν a b) → 0 ≤ i → i ≤ ν 83 14 → x = fp_lb (mv ν) i.toNat → g = fp_f (mv ν) → sx_3 μ 100 → 1 ≤ ν 83 14 → am_AW l 0 (fun _ => 0) 212 Q 29 [some (.inr (.inr 83)), some (.inl g), some (.inl x), some (.inl i), o4] [] μ := fun g x i o4 μ hv0 hv1 hv2 hv3 hv4 hv5 hv6 => lp29 ((ν 83 14 - i) + 1).toNat g x i o4 μ hv0 hv1 hv2 hv3 hv4 hv5 hv6 (by omega)
  refine am_go (ct := fun pc => Nat.beq pc 29) am_oX7_let 300 ?_
  conv => whnf
  repeat' first
    | (refine (?_ : am_wp _ _ _ _ _ _ _ _ _ _ _ _); conv => whnf)
    | (refine (?_ : am_sw _ _ _ _); conv => whnf)
    | refine And.intro trivial ?_
    | exact trivial
    | refine x_no _ ?_ (fun μr fr => ?_)
    | (have n1 : 1 ≤ ν 83 14 := (by rw [cn] at *; omega); refine x_takesTimes hf (fun μ1 g1 o1 t1 b1 => ?_); have w1 : μ1 100 (am_c 0).toNat = fp_f (mv ν) := (fp_od_o f1 o1 0 (by omega)).trans (mv_f f1))
    | refine kk _ _ (mi_84 hm fr) ?_
    | refine lp29' _ _ _ _ _ ?_ ?_ ?_ ?_ ?_ ?_ ?_
    | refine And.intro (fun h => absurd h (by decide)) (fun _ => ?_)
    | refine And.intro (fun _ => ?_) (fun h => absurd (by decide) h)
    | refine And.intro (fun _ => ?_) (fun _ => ?_)
    | refine And.intro ?_ ?_
  all_goals (first | decide | omega | rfl | exact w1 | (intro a b q1 q2; exact g1 a b q1 q2) | exact b1 (fun p hp => mi_or hm p hp) | (unfold fp_le; rw [e4, if_pos (by rw [cn] at *; omega)]) | (trace_state; fail))
/-! races in mind -/
def fp_go (F : am_N) : Nat → am_N
  | 0 => F
  | k + 1 => fp_rn (fp_go F k)
/-- how many of them one wins -/
def fp_wn (F : am_N) (r : Int) : Nat → Int
  | 0 => 0
  | k + 1 => if fp_f (fp_go F k) = r then fp_wn F r k + 1 else fp_wn F r k
theorem fw_go {W : Int} {F : am_N} (h : fp_fw W F) : ∀ k : Nat, fp_fw (W + (k : Int)) (fp_go F k) := by
  intro k
  induction k with
  | zero => rw [show W + ((0 : Nat) : Int) = W by omega]; exact h
  | succ k ih => exact fw_rn ih (by omega)
theorem fp_go_n (F : am_N) : ∀ k : Nat, fp_go F k 0 4 = F 0 4 := by
  intro k
  induction k with
  | zero => rfl
  | succ k ih => exact Eq.trans (show fp_rn (fp_go F k) 0 4 = fp_go F k 0 4 from rfl) ih
theorem fp_rn_6 {F : am_N} {r : Nat} (hr : r < 4) : fp_rn F 6 r = if (r : Int) = fp_f F then F 6 r + 1 else F 6 r := by
  unfold fp_rn
  rw [fp_ct_i (fp_in_a (by decide) (by decide) hr)]
  unfold fp_rr
  rw [if_pos rfl]
theorem fp_go_6 {F : am_N} {r : Nat} (hr : r < 4) : ∀ k : Nat, fp_go F k 6 r = F 6 r + fp_wn F (r : Int) k := by
  intro k
  induction k with
  | zero => exact (Int.add_zero _).symm
  | succ k ih =>
    rw [show fp_go F (k + 1) 6 r = fp_rn (fp_go F k) 6 r from rfl, fp_rn_6 hr]
    simp only [fp_wn]
    by_cases d : fp_f (fp_go F k) = (r : Int)
    · rw [if_pos d.symm, if_pos d, ih]; omega
    · rw [if_neg (fun z => d z.symm), if_neg d, ih]
theorem fp_wn_b (F : am_N) (r : Int) : ∀ k : Nat, 0 ≤ fp_wn F r k ∧ fp_wn F r k ≤ (k : Int) := by
  intro k
  induction k with
  | zero => exact ⟨(by first | exact Int.le_refl 0 | (show (0 : Int) ≤ 1; decide) | (show (0 : Int) ≤ _; decide) | (show _ ≤ (0 : Int); decide) | (show (1 : Int) ≤ _; decide) | (show (0 : Int) < _; decide)), (by first | exact Int.le_refl 0 | (show (0 : Int) ≤ 1; decide) | (show (0 : Int) ≤ _; decide) | (show _ ≤ (0 : Int); decide) | (show (1 : Int) ≤ _; decide) | (show (0 : Int) < _; decide))⟩
  | succ k ih =>
    simp only [fp_wn]
    split <;> omega
/-- cells of the field are no scratch -/
theorem mQ_fld {a b : Nat} (h : ((85 ≤ a ∧ a ≤ 90) ∧ b < 4) ∨ (a = 83 ∧ 10 ≤ b ∧ b ≤ 14)) : mQ a b = false := by
  rcases h with ⟨h1, h2⟩ | ⟨rfl, h1, h2⟩
  · rcases (show a = 85 ∨ a = 86 ∨ a = 87 ∨ a = 88 ∨ a = 89 ∨ a = 90 by omega) with rfl | rfl | rfl | rfl | rfl | rfl <;> rcases (show b = 0 ∨ b = 1 ∨ b = 2 ∨ b = 3 by omega) with rfl | rfl | rfl | rfl <;> rfl
  · rcases (show b = 10 ∨ b = 11 ∨ b = 12 ∨ b = 13 ∨ b = 14 by omega) with rfl | rfl | rfl | rfl | rfl <;> rfl
theorem mv_mQ {ν μ : am_N} (h : ∀ a b, mQ a b = false → μ a b = ν a b) : mv μ = mv ν := mv_keep4 (fun a b q => h a b (mQ_fld q))
theorem gm_runs {μ μ' : am_N} (h : mi μ) (f : ∀ a b, a ≠ 89 → a ≠ 90 → ¬(a = 83 ∧ b = 11) → a ≠ 99 → a ≠ 100 → μ' a b = μ a b) (p : sx_3 μ' 100) : gm mM μ μ' := by
  refine ⟨?_, fun a b q => f a b (fun z => by rw [z] at q; cases q) (fun z => by rw [z] at q; cases q) (fun z => by rw [z.1, z.2] at q; cases q) (fun z => by rw [z] at q; cases q) (fun z => by rw [z] at q; cases q)⟩
  unfold mi at h ⊢
  have e : ∀ a b, a = 98 ∨ (a = 83 ∧ b ≠ 11) → μ' a b = μ a b := fun a b q => f a b (by omega) (by omega) (by omega) (by omega) (by omega)
  rw [e 83 14 (by omega), e 83 15 (by omega), e 83 16 (by omega), e 83 21 (by omega), e 83 33 (by omega), e 83 40 (by omega), e 83 42 (by omega), e 98 44 (by omega), e 98 38 (by omega), e 98 39 (by omega)]
  exact ⟨h.1, h.2.1, h.2.2.1, h.2.2.2.1, h.2.2.2.2.1, h.2.2.2.2.2.1, h.2.2.2.2.2.2.1, h.2.2.2.2.2.2.2.1, h.2.2.2.2.2.2.2.2.1, h.2.2.2.2.2.2.2.2.2.1, p⟩
theorem gm_84 {A : Nat → Nat → Bool} {ν μ : am_N} (hA : ∀ b, A 84 b = true) (h : mi ν) (f : ∀ a b, a ≠ 84 → μ a b = ν a b) : gm A ν μ := ⟨(mi_84 h f).1, fun a b q => f a b (fun z => by rw [z, hA] at q; cases q)⟩
theorem n_go_end {ν μ μ3 : am_N} {r k : Nat} (hr : r < 4) (h0 : MD mQ ν μ) (u1 : KPl 60 (am_up (am_up μ 83 37 (μ 90 r)) 83 38 (μ 89 r)) μ3) (hv : mv μ = fp_go (mv ν) k) : gm mQ ν (am_up μ3 83 37 (μ3 83 37 - μ3 90 r)) ∧ am_up μ3 83 37 (μ3 83 37 - μ3 90 r) 83 37 = fp_wn (mv ν) (r : Int) k ∧ am_up μ3 83 37 (μ3 83 37 - μ3 90 r) 83 38 = fp_go (mv ν) k 5 r := by
  have hD : MD mQ ν (am_up (am_up μ 83 37 (μ 90 r)) 83 38 (μ 89 r)) := md_up (md_up h0 rfl rfl) rfl rfl
  have hG : gm mQ ν μ3 := md_back hD u1 (fun _ _ q => q)
  have f37 : μ3 83 37 = μ 90 r := (u1.2 83 37 rfl (by omega)).trans ((am_upM (by decide)).trans (if_pos ⟨rfl, rfl⟩))
  have f38 : μ3 83 38 = μ 89 r := (u1.2 83 38 rfl (by omega)).trans (if_pos ⟨rfl, rfl⟩)
  have f90 : μ3 90 r = ν 90 r := hG.2 90 r (mQ_fld (Or.inl (by omega)))
  have w1 : μ 90 r = ν 90 r + fp_wn (mv ν) (r : Int) k := by
    have z := fp_go_6 (F := mv ν) (r := r) hr k
    rw [← hv, mv_6 hr, mv_6 hr] at z
    exact z
  have w2 : μ 89 r = fp_go (mv ν) k 5 r := by rw [← mv_5 (μ := μ) hr, hv]
  refine ⟨gm_up hG rfl rfl, ?_, ?_⟩
  · rw [am_upS, if_pos ⟨rfl, rfl⟩, f37, f90, w1]; omega
  · rw [am_upM (by decide), f38, w2]
/-- a field with one's kind, one's START other -/
def fp_kd (F : am_N) (i : Nat) (q : Int) : am_N := fp_ct (am_up F 1 i q)
def fp_sd (F : am_N) (i : Nat) (s : Int) : am_N := fp_ct (am_up F 5 i s)
theorem fw_kd {W : Int} {F : am_N} {i : Nat} {q : Int} (h : fp_fw W F) (hq : 0 ≤ q ∧ q ≤ 5) : fp_fw W (fp_kd F i q) := by
  refine fw_ct ?_
  obtain ⟨h0, h1, h2, h3, h4, h5, h6⟩ := h
  have e : ∀ a b : Nat, a ≠ 1 → am_up F 1 i q a b = F a b := fun a b z => am_upN z
  unfold fp_fw
  rw [e 0 0 (by decide), e 0 1 (by decide), e 0 2 (by decide), e 0 3 (by decide), e 0 4 (by decide)]
  refine ⟨h0, h1, h2, h3, h4, fun j hj => ?_, fun j hj => ?_⟩
  · rw [e 5 j (by decide)]; exact h5 j hj
  · rw [e 2 j (by decide), e 3 j (by decide), e 4 j (by decide)]
    obtain ⟨q1, q2, q3, q4⟩ := h6 j hj
    refine ⟨?_, q2, q3, q4⟩
    by_cases d : j = i
    · rw [am_upS, if_pos ⟨rfl, d⟩]; exact hq
    · rw [am_upM d]; exact q1
theorem fw_sd {W : Int} {F : am_N} {i : Nat} {s : Int} (h : fp_fw W F) (hs : 0 ≤ s ∧ s ≤ 99) : fp_fw W (fp_sd F i s) := fw_ct (fw_arr h (by decide) (fun _ => hs) (Or.inr (by decide)))
/-- a field but for one cell -/
theorem mv_but {ν μ : am_N} {a j : Nat} {v : Int} (ha : a < 6) (h : ∀ x b, mQ x b = false → ¬(x = 85 + a ∧ b = j) → μ x b = ν x b) : mv (am_up μ (85 + a) j v) = fp_ct (am_up (mv ν) (a + 1) j v) := by
  rw [mv_up]
  refine fp_ct_e (fun b hb => ?_) (fun x b q1 q2 hb => ?_)
  · rw [am_upN (by omega), am_upN (by omega), mv_0 hb, mv_0 hb]
    exact h 83 (10 + b) (mQ_fld (Or.inr (by omega))) (by omega)
  · by_cases d : x = a + 1 ∧ b = j
    · rw [am_upS, if_pos d, am_upS, if_pos d]
    · rw [am_uE d, am_uE d]
      obtain ⟨x, rfl⟩ : ∃ e, x = e + 1 := ⟨x - 1, by omega⟩
      rw [mv_a (by omega) hb, mv_a (by omega) hb]
      exact h (85 + x) b (mQ_fld (Or.inl (by omega))) (by omega)
/-- counted, and the least, upwards and downwards -/
def fq_cu (P : Nat → Bool) : Nat → Int
  | 0 => 0
  | t + 1 => bif P t then fq_cu P t + 1 else fq_cu P t
def fq_lu (P : Nat → Bool) : Nat → Int
  | 0 => -9
  | t + 1 => bif P t then (if fq_cu P t = 0 then (t : Int) else fq_lu P t) else fq_lu P t
def fq_cd (P : Nat → Bool) (N : Nat) : Nat → Int
  | 0 => 0
  | t + 1 => bif P (N - (t + 1)) then fq_cd P N t + 1 else fq_cd P N t
def fq_ld (P : Nat → Bool) (N : Nat) : Nat → Int
  | 0 => -9
  | t + 1 => bif P (N - (t + 1)) then ((N - (t + 1) : Nat) : Int) else fq_ld P N t
theorem fq_cu_b (P : Nat → Bool) : ∀ t : Nat, 0 ≤ fq_cu P t ∧ fq_cu P t ≤ (t : Int) := by
  intro t
  induction t with
  | zero => exact ⟨(by first | exact Int.le_refl 0 | (show (0 : Int) ≤ 1; decide) | (show (0 : Int) ≤ _; decide) | (show _ ≤ (0 : Int); decide) | (show (1 : Int) ≤ _; decide) | (show (0 : Int) < _; decide)), (by first | exact Int.le_refl 0 | (show (0 : Int) ≤ 1; decide) | (show (0 : Int) ≤ _; decide) | (show _ ≤ (0 : Int); decide) | (show (1 : Int) ≤ _; decide) | (show (0 : Int) < _; decide))⟩
  | succ t ih =>
    simp only [fq_cu]
    cases P t
    · exact ⟨ih.1, by show fq_cu P t ≤ _; omega⟩
    · exact ⟨by show 0 ≤ fq_cu P t + 1; omega, by show fq_cu P t + 1 ≤ _; omega⟩
theorem fq_cd_b (P : Nat → Bool) (N : Nat) : ∀ t : Nat, 0 ≤ fq_cd P N t ∧ fq_cd P N t ≤ (t : Int) := by
  intro t
  induction t with
  | zero => exact ⟨(by first | exact Int.le_refl 0 | (show (0 : Int) ≤ 1; decide) | (show (0 : Int) ≤ _; decide) | (show _ ≤ (0 : Int); decide) | (show (1 : Int) ≤ _; decide) | (show (0 : Int) < _; decide)), (by first | exact Int.le_refl 0 | (show (0 : Int) ≤ 1; decide) | (show (0 : Int) ≤ _; decide) | (show _ ≤ (0 : Int); decide) | (show (1 : Int) ≤ _; decide) | (show (0 : Int) < _; decide))⟩
  | succ t ih =>
    simp only [fq_cd]
    cases P (N - (t + 1))
    · exact ⟨ih.1, by show fq_cd P N t ≤ _; omega⟩
    · exact ⟨by show 0 ≤ fq_cd P N t + 1; omega, by show fq_cd P N t + 1 ≤ _; omega⟩
theorem fq_lu_0 (P : Nat → Bool) : ∀ t : Nat, fq_cu P t = 0 → fq_lu P t = -9 := by
  intro t
  induction t with
  | zero => intro _; rfl
  | succ t ih =>
    have b := fq_cu_b P t
    simp only [fq_cu, fq_lu]
    cases P t
    · exact ih
    · intro h
      exfalso
      have h : fq_cu P t + 1 = 0 := h
      omega
theorem fq_c (P : Nat → Bool) (N : Nat) : ∀ t : Nat, t ≤ N → fq_cu P t + fq_cd P N (N - t) = fq_cd P N N := by
  intro t
  induction t with
  | zero => intro _; exact Int.zero_add _
  | succ t ih =>
    intro ht
    rw [← ih (by omega), show N - t = (N - (t + 1)) + 1 by omega]
    simp only [fq_cu, fq_cd]
    rw [show N - (N - (t + 1) + 1) = t by omega]
    cases P t
    · rfl
    · show fq_cu P t + 1 + fq_cd P N (N - (t + 1)) = fq_cu P t + (fq_cd P N (N - (t + 1)) + 1)
      omega
theorem fq_c_N (P : Nat → Bool) (N : Nat) : fq_cd P N N = fq_cu P N := by
  have h := fq_c P N N (Nat.le_refl _)
  rw [Nat.sub_self] at h
  rw [← h]
  exact Int.add_zero _
theorem fq_l (P : Nat → Bool) (N : Nat) : ∀ t : Nat, t ≤ N → (if fq_cu P t = 0 then fq_ld P N (N - t) else fq_lu P t) = fq_ld P N N := by
  intro t
  induction t with
  | zero => intro _; exact if_pos rfl
  | succ t ih =>
    intro ht
    have b := fq_cu_b P t
    rw [← ih (by omega), show N - t = (N - (t + 1)) + 1 by omega]
    simp only [fq_cu, fq_lu, fq_ld]
    rw [show N - (N - (t + 1) + 1) = t by omega]
    rcases Bool.eq_false_or_eq_true (P t) with d | d
    · simp only [d, cond_true]
      rw [if_neg (by omega)]
    · simp only [d, cond_false]
theorem fq_l_N (P : Nat → Bool) (N : Nat) : fq_ld P N N = fq_lu P N := by
  have h := fq_l P N N (Nat.le_refl _)
  rw [Nat.sub_self] at h
  rw [← h]
  by_cases d : fq_cu P N = 0
  · rw [if_pos d, fq_lu_0 P N d]; rfl
  · rw [if_neg d]
/-- a down step -/
theorem fq_dn {P : Nat → Bool} {s : Int} (h0 : 0 ≤ s) (h1 : s ≤ 99) : fq_cd P 100 (99 - (s + -1)).toNat = (bif P s.toNat then fq_cd P 100 (99 - s).toNat + 1 else fq_cd P 100 (99 - s).toNat) ∧ fq_ld P 100 (99 - (s + -1)).toNat = (bif P s.toNat then s else fq_ld P 100 (99 - s).toNat) := by
  rw [show (99 - (s + -1)).toNat = (99 - s).toNat + 1 by omega]
  simp only [fq_cd, fq_ld]
  rw [show 100 - ((99 - s).toNat + 1) = s.toNat by omega, Int.toNat_of_nonneg h0]
  exact ⟨rfl, rfl⟩
/-- the answers of on(), pays(), had() -/
def fp_onr (F : am_N) (i n w : Int) : Int := if ¬(0 ≤ i ∧ i < F 0 4) then -1 else if n < 0 then -4 else if 60 < n then -6 else if ¬(w = 0 ∨ w = 1) then -2 else if w = 0 then fp_go F n.toNat 5 i.toNat else fp_wn F i n.toNat
def fp_pyr (F : am_N) (i n : Int) : Int := if ¬(0 ≤ i ∧ i < F 0 4) then 1000000001 else if n < 0 then 1000000004 else if 60 < n then 1000000006 else fp_wn (fp_kd F i.toNat 3) i n.toNat - fp_wn (fp_kd F i.toNat 0) i n.toNat
def fp_hp (F : am_N) (i n g : Int) : Nat → Bool := fun s => decide (fp_wn (fp_sd F i.toNat (s : Int)) i n.toNat = g)
def fp_hdr (F : am_N) (i n g w : Int) : Int := if ¬(0 ≤ i ∧ i < F 0 4) then -1 else if n < 0 ∨ g < 0 then -4 else if 60 < n ∨ n < g then -6 else if ¬(w = 0 ∨ w = 1) then -2 else if w = 0 then fq_cu (fp_hp F i n g) 100 else fq_lu (fp_hp F i n g) 100
theorem s_winsIn {l : Launch} {ν : am_N} {Q : Option am_V → am_N → Prop} (r n : Int) (cr : am_c r = r) (cn : am_c n = n) (hw : fp_fw 999 (fv ν 8)) (n0 : 0 ≤ n) (n1 : n ≤ 60) (h1 : 1 ≤ ν 8 4) (hp : sx_3 ν 34) (hb : 0 ≤ ν 29 0 ∧ ν 29 0 ≤ 4) (k : ∀ μ' : am_N, (∀ a b, ¬(8 ≤ a ∧ a < 15) → a ≠ 33 → a ≠ 34 → ¬(a = 29 ∧ b = 0) → μ' a b = ν a b) → fv μ' 8 = fp_go (fv ν 8) n.toNat → sx_3 μ' 34 → (0 ≤ μ' 29 0 ∧ μ' 29 0 ≤ 4) → Q (some (.inl (fp_wn (fv ν 8) r n.toNat))) μ') : am_Does l 125 [.inr (.inr 0), .inl r, .inl n] ν Q := by
  refine am_Does_of (Nat.le_of_ble_eq_true rfl) (Nat.le_of_ble_eq_true rfl) (Nat.le_of_ble_eq_true rfl) ?_
  have h4 := (fw_C hw (by decide)).1.1
  have kk := fun (x : Int) (μ' : am_N) a1 a2 a3 a4 (e : x = fp_wn (fv ν 8) r n.toNat) => am_qe (k μ' a1 a2 a3 a4) e
  have lp5 : ∀ (m : Nat) (w i : Int) (μ : am_N) , (∀ a b, ¬(8 ≤ a ∧ a < 15) → a ≠ 33 → a ≠ 34 → ¬(a = 29 ∧ b = 0) → μ a b = ν a b) → fv μ 8 = fp_go (fv ν 8) i.toNat → 0 ≤ i → i ≤ n → w = fp_wn (fv ν 8) r i.toNat → sx_3 μ 34 → (0 ≤ μ 29 0 ∧ μ 29 0 ≤ 4) → n - i < (m : Int) → am_AW l 0 (fun _ => 0) 125 Q 5 [some (.inr (.inr 0)), some (.inl r), some (.inl n), some (.inl w), some (.inl i)] [] μ := by
    intro m
    induction m with
    | zero =>
      intro w i μ hv0 hv1 hv2 hv3 hv4 hv5 hv6 hm
      exfalso
      omega
    | succ m ih =>
      intro w i μ hv0 hv1 hv2 hv3 hv4 hv5 hv6 hm
      have ci : am_c i = i := am_cR (by omega) (by omega)
      have h8 : fp_fw 1059 (fv μ 8) := by rw [hv1]; exact fw_mono (fw_go hw i.toNat) (by omega)
      have n8 : μ 8 4 = ν 8 4 := by rw [← fv_0 (μ := μ) (c := 8) (b := 4) (by decide), hv1, fp_go_n]; exact fv_0 (by decide)
      have fb := fp_f_b (fv μ 8)
      have cf : am_c (fp_f (fv μ 8)) = fp_f (fv μ 8) := am_cR (by omega) (by omega)
      refine am_go (ct := fun pc => Nat.beq pc 5) am_oX6_winsIn 300 ?_
      conv => whnf
      repeat' first
        | (refine (?_ : am_wp _ _ _ _ _ _ _ _ _ _ _ _); conv => whnf)
        | (refine (?_ : am_sw _ _ _ _); conv => whnf)
        | refine And.intro trivial ?_
        | exact trivial
        | (refine x_goOn_29_8 1059 h8 (by decide) (by omega) hv5 (fun μ2 g2 p2 b2 n2 _ _ => ?_))
        | refine kk _ _ hv0 ?_ hv5 hv6 ?_
        | refine ih _ _ _ ?_ ?_ ?_ ?_ ?_ ?_ ?_ ?_
        | refine And.intro (fun h => absurd h (by decide)) (fun _ => ?_)
        | refine And.intro (fun _ => ?_) (fun h => absurd (by decide) h)
        | refine And.intro (fun _ => ?_) (fun _ => ?_)
        | refine And.intro ?_ ?_
      all_goals (first | decide | assumption | omega | (intro a b q1 q2 q3 q4; rw [g2 a b (by omega) (by omega) (by omega) q2 q3 q4]; exact hv0 a b q1 q2 q3 q4) | (rw [show (i + 1).toNat = i.toNat + 1 by omega, p2, hv1]; rfl) | (rw [show (i + 1).toNat = i.toNat + 1 by omega]; simp only [fp_wn]; rw [← hv1, hv4]; first | (rw [if_pos (by simp only [cf, cr] at *; omega)]) | (rw [if_neg (by simp only [cf, cr] at *; omega)])) | (rw [n2, n8]; omega) | (rw [hv1, show i.toNat = n.toNat by simp only [ci, cn] at *; omega]) | (rw [hv4, show i.toNat = n.toNat by simp only [ci, cn] at *; omega]) | (trace_state; fail))
  have lp5' : ∀ (w i : Int) (μ : am_N) , (∀ a b, ¬(8 ≤ a ∧ a < 15) → a ≠ 33 → a ≠ 34 → ¬(a = 29 ∧ b = 0) → μ a b = ν a b) → fv μ 8 = fp_go (fv ν 8) i.toNat → 0 ≤ i → i ≤ n → w = fp_wn (fv ν 8) r i.toNat → sx_3 μ 34 → (0 ≤ μ 29 0 ∧ μ 29 0 ≤ 4) → am_AW l 0 (fun _ => 0) 125 Q 5 [some (.inr (.inr 0)), some (.inl r), some (.inl n), some (.inl w), some (.inl i)] [] μ := fun w i μ hv0 hv1 hv2 hv3 hv4 hv5 hv6 => lp5 ((n - i) + 1).toNat w i μ hv0 hv1 hv2 hv3 hv4 hv5 hv6 (by omega)
  refine am_go (ct := fun pc => Nat.beq pc 5) am_oX6_winsIn 300 ?_
  conv => whnf
  repeat' first
    | (refine (?_ : am_wp _ _ _ _ _ _ _ _ _ _ _ _); conv => whnf)
    | (refine (?_ : am_sw _ _ _ _); conv => whnf)
    | refine And.intro trivial ?_
    | exact trivial
    | refine lp5' _ _ _ ?_ ?_ ?_ ?_ ?_ ?_ ?_
    | refine And.intro (fun h => absurd h (by decide)) (fun _ => ?_)
    | refine And.intro (fun _ => ?_) (fun h => absurd (by decide) h)
    | refine And.intro (fun _ => ?_) (fun _ => ?_)
    | refine And.intro ?_ ?_
  all_goals (first | decide | assumption | omega | rfl | (intros; rfl) | (trace_state; fail))
theorem n_goesOn {l : Launch} {ν : am_N} {Q : Option am_V → am_N → Prop} (n r : Int) (cr : am_c r = r) (cn : am_c n = n) (hm : mi ν) (hw : fp_fw 999 (mv ν)) (n0 : 0 ≤ n) (n1 : n ≤ 60) (r0 : 0 ≤ r) (r1 : r < ν 83 14) (k : ∀ μ' : am_N, gm mQ ν μ' → μ' 83 37 = fp_wn (mv ν) r n.toNat → μ' 83 38 = fp_go (mv ν) n.toNat 5 r.toNat → Q none μ') : am_Does l 199 [.inr (.inr 83), .inl n, .inl r] ν Q := by
  refine am_Does_of (Nat.le_of_ble_eq_true rfl) (Nat.le_of_ble_eq_true rfl) (Nat.le_of_ble_eq_true rfl) ?_
  have h4 := (fw_M hw (by decide)).1.1
  have e4 : mv ν 0 4 = ν 83 14 := rfl
  have er : (am_c r).toNat = r.toNat := by rw [cr]
  have lp8 : ∀ (m : Nat) (i : Int) (μ : am_N) , MD mQ ν μ → mv μ = fp_go (mv ν) i.toNat → 0 ≤ i → i ≤ n → n - i < (m : Int) → am_AW l 0 (fun _ => 0) 199 Q 8 [some (.inr (.inr 83)), some (.inl n), some (.inl r), some (.inl i)] [] μ := by
    intro m
    induction m with
    | zero =>
      intro i μ hv0 hv1 hv2 hv3 hm
      exfalso
      omega
    | succ m ih =>
      intro i μ hv0 hv1 hv2 hv3 hm
      have ci : am_c i = i := am_cR (by omega) (by omega)
      have h8 : fp_fw 1059 (mv μ) := by rw [hv1]; exact fw_mono (fw_go hw i.toNat) (by omega)
      have n8 : μ 83 14 = ν 83 14 := by rw [← mv_n (μ := μ), hv1, fp_go_n]; rfl
      have hmi := md_i hv0
      refine am_go (ct := fun pc => Nat.beq pc 8) am_oX7_goesOn 300 ?_
      conv => whnf
      repeat' first
        | (refine (?_ : am_wp _ _ _ _ _ _ _ _ _ _ _ _); conv => whnf)
        | (refine (?_ : am_sw _ _ _ _); conv => whnf)
        | refine And.intro trivial ?_
        | exact trivial
        | (refine x_runs 1059 h8 (by decide) (by omega) (fun p hp => mi_or hmi p hp) (fun μ2 g2 p2 b2 _ _ => ?_))
        | (have ie : i.toNat = n.toNat := (by simp only [ci, cn] at *; omega); refine m_come1 (fun μ3 u1 _ _ _ => ?_); have hE := n_go_end (r := (am_c r).toNat) (k := n.toNat) (by rw [er]; omega) hv0 u1 (hv1.trans (by rw [ie])); have w1 := hE.2.1.trans (show fp_wn (mv ν) (((am_c r).toNat : Nat) : Int) n.toNat = fp_wn (mv ν) r n.toNat by rw [er, Int.toNat_of_nonneg r0]); have w2 := hE.2.2.trans (show fp_go (mv ν) n.toNat 5 (am_c r).toNat = fp_go (mv ν) n.toNat 5 r.toNat by rw [er]))
        | exact k _ hE.1 w1 w2
        | (refine m_keep1 (fun μ1 u1 _ _ _ => ?_); have hD : MD mQ ν μ1 := md_start (gm_rf hm) u1; have p1 : mv μ1 = mv ν := mv_keep (fun a b q => u1.2 a b (by omega) (by omega)))
        | refine ih _ _ ?_ ?_ ?_ ?_ ?_
        | refine And.intro (fun h => absurd h (by decide)) (fun _ => ?_)
        | refine And.intro (fun _ => ?_) (fun h => absurd (by decide) h)
        | refine And.intro (fun _ => ?_) (fun _ => ?_)
        | refine And.intro ?_ ?_
      all_goals (first | decide | assumption | omega | exact md_tr hv0 (gm_runs hmi g2 b2) (fun _ _ q => q) | (rw [show (i + 1).toNat = i.toNat + 1 by omega, p2, hv1]; rfl) | (rw [cr]; omega) | (rw [am_upS, if_pos ⟨rfl, rfl⟩, f37, f90, w1]; omega) | (rw [am_upM (by decide), f38, w2]) | (trace_state; fail))
  have lp8' : ∀ (i : Int) (μ : am_N) , MD mQ ν μ → mv μ = fp_go (mv ν) i.toNat → 0 ≤ i → i ≤ n → am_AW l 0 (fun _ => 0) 199 Q 8 [some (.inr (.inr 83)), some (.inl n), some (.inl r), some (.inl i)] [] μ := fun i μ hv0 hv1 hv2 hv3 => lp8 ((n - i) + 1).toNat i μ hv0 hv1 hv2 hv3 (by omega)
  refine am_go (ct := fun pc => Nat.beq pc 8) am_oX7_goesOn 300 ?_
  conv => whnf
  repeat' first
    | (refine (?_ : am_wp _ _ _ _ _ _ _ _ _ _ _ _); conv => whnf)
    | (refine (?_ : am_sw _ _ _ _); conv => whnf)
    | refine And.intro trivial ?_
    | exact trivial
    | (refine m_keep1 (fun μ1 u1 _ _ _ => ?_); have hD : MD mQ ν μ1 := md_start (gm_rf hm) u1; have p1 : mv μ1 = mv ν := mv_keep (fun a b q => u1.2 a b (by omega) (by omega)))
    | refine lp8' _ _ ?_ ?_ ?_ ?_
    | refine And.intro (fun h => absurd h (by decide)) (fun _ => ?_)
    | refine And.intro (fun _ => ?_) (fun h => absurd (by decide) h)
    | refine And.intro (fun _ => ?_) (fun _ => ?_)
    | refine And.intro ?_ ?_
  all_goals (first | decide | assumption | omega | exact hD | exact p1 | (trace_state; fail))
theorem s_on {l : Launch} {ν : am_N} {Q : Option am_V → am_N → Prop} (i n w : Int) (ci : am_c i = i) (cn : am_c n = n) (cw : am_c w = w) (hS : sx ν ν) (hw : fp_fw 999 (fv ν 1)) (k : ∀ μ' : am_N, sx ν μ' → Q (some (.inl (fp_onr (fv ν 1) i n w))) μ') : am_Does l 76 [.inr (.inr 0), .inl i, .inl n, .inl w] ν Q := by
  refine am_Does_of (Nat.le_of_ble_eq_true rfl) (Nat.le_of_ble_eq_true rfl) (Nat.le_of_ble_eq_true rfl) ?_
  have l0 : am_c 0 = 0 := rfl
  have l1 : am_c 1 = 1 := rfl
  have l2 : am_c 2 = 2 := rfl
  have l3 : am_c 3 = 3 := rfl
  have l60 : am_c 60 = 60 := rfl
  have l99 : am_c 99 = 99 := rfl
  have m1' : am_c (-1) = -1 := rfl
  have m2' : am_c (-2) = -2 := rfl
  have m3' : am_c (-3) = -3 := rfl
  have m4' : am_c (-4) = -4 := rfl
  have m6' : am_c (-6) = -6 := rfl
  have m9' : am_c (-9) = -9 := rfl
  obtain ⟨hf, -, -, -, -, -, -⟩ := fw_C hw (by decide)
  have f0 := hf.1.1
  have f1 := hf.1.2
  have e4 : fv ν 1 0 4 = ν 1 4 := fv_0 (by decide)
  have h15 := hS.2.2.2.1
  have kk := fun (x : Int) (μ' : am_N) (h : sx ν μ') (e : x = fp_onr (fv ν 1) i n w) => am_qe (k μ' h) e
  refine am_go (ct := fun _ => false) am_oX6_on 300 ?_
  conv => whnf
  repeat' first
    | (refine (?_ : am_wp _ _ _ _ _ _ _ _ _ _ _ _); conv => whnf)
    | (refine (?_ : am_sw _ _ _ _); conv => whnf)
    | refine And.intro trivial ?_
    | exact trivial
    | refine x_has1 _ f0 f1 (fun y0 y1 => ?_) (fun y => ?_)
    | refine x_refuse _ ?_ (fun μr fr => ?_)
    | refine x_noPart _ cw (fun z => ?_) (fun z => ?_)
    | (refine x_take_8_1 (fun μ1 g1 s1 r1 => ?_); have p1 : fv μ1 8 = fv ν 1 := fv_tk s1 r1; have n8 : μ1 8 4 = ν 1 4 := s1 4 (by decide))
    | (refine s_winsIn _ _ ci cn (by rw [p1]; exact hw) (by omega) (by omega) (by rw [n8]; omega) (fun p hp => by rw [g1 34 p (by omega)]; exact hS.2.1 p hp) (by rw [g1 29 0 (by omega)]; exact h15.2.2.1) (fun μ2 g2 p2 b2 z2 => ?_); have sE : sx ν μ2 := sx_lt hS (fun a b q1 q2 q3 q4 _ => (g2 a b q1 q2 q3 q4).trans (g1 a b q1)) b2 (by rw [show μ2 8 4 = ν 1 4 by rw [← fv_0 (μ := μ2) (c := 8) (b := 4) (by decide), p2, fp_go_n, p1]; exact fv_0 (by decide)]; omega) z2)
    | refine kk _ _ sE ?_
    | refine kk _ _ (sx_78 hS fr) ?_
    | refine And.intro (fun h => absurd h (by decide)) (fun _ => ?_)
    | refine And.intro (fun _ => ?_) (fun h => absurd (by decide) h)
    | refine And.intro (fun _ => ?_) (fun _ => ?_)
    | refine And.intro ?_ ?_
  all_goals (first | decide | omega | (rw [ci]; omega) | (unfold fp_onr; rw [e4, if_pos (by omega)]; done) | (unfold fp_onr; rw [e4, if_neg (by omega), if_pos (by omega)]; done) | (unfold fp_onr; rw [e4, if_neg (by omega), if_neg (by omega), if_pos (by omega)]; done) | (unfold fp_onr; rw [e4, if_neg (by omega), if_neg (by omega), if_neg (by omega), if_pos (by omega)]; done) | (unfold fp_onr; rw [e4, if_neg (by omega), if_neg (by omega), if_neg (by omega), if_neg (by omega), if_pos (by omega), ci, ← p1, ← p2]; exact (fv_a (c := 8) (a := 5) (by decide) (by decide) (by omega)).symm) | (unfold fp_onr; rw [e4, if_neg (by omega), if_neg (by omega), if_neg (by omega), if_neg (by omega), if_neg (by omega), ← p1]) | (trace_state; fail))
theorem n_on {l : Launch} {ν : am_N} {Q : Option am_V → am_N → Prop} (i n w : Int) (ci : am_c i = i) (cn : am_c n = n) (cw : am_c w = w) (hm : mi ν) (hw : fp_fw 999 (mv ν)) (k : ∀ μ' : am_N, gm mQ ν μ' → Q (some (.inl (fp_onr (mv ν) i n w))) μ') : am_Does l 200 [.inr (.inr 83), .inl i, .inl n, .inl w] ν Q := by
  refine am_Does_of (Nat.le_of_ble_eq_true rfl) (Nat.le_of_ble_eq_true rfl) (Nat.le_of_ble_eq_true rfl) ?_
  have l0 : am_c 0 = 0 := rfl
  have l1 : am_c 1 = 1 := rfl
  have l2 : am_c 2 = 2 := rfl
  have l3 : am_c 3 = 3 := rfl
  have l60 : am_c 60 = 60 := rfl
  have l99 : am_c 99 = 99 := rfl
  have m1' : am_c (-1) = -1 := rfl
  have m2' : am_c (-2) = -2 := rfl
  have m3' : am_c (-3) = -3 := rfl
  have m4' : am_c (-4) = -4 := rfl
  have m6' : am_c (-6) = -6 := rfl
  have m9' : am_c (-9) = -9 := rfl
  obtain ⟨hf, -, -, -, -, -, -⟩ := fw_M hw (by decide)
  have f0 := hf.1.1
  have f1 := hf.1.2
  have e4 : mv ν 0 4 = ν 83 14 := rfl
  have kk := fun (x : Int) (μ' : am_N) (h : gm mQ ν μ') (e : x = fp_onr (mv ν) i n w) => am_qe (k μ' h) e
  refine am_go (ct := fun _ => false) am_oX7_on 300 ?_
  conv => whnf
  repeat' first
    | (refine (?_ : am_wp _ _ _ _ _ _ _ _ _ _ _ _); conv => whnf)
    | (refine (?_ : am_sw _ _ _ _); conv => whnf)
    | refine And.intro trivial ?_
    | exact trivial
    | refine x_isRunnerT _ f0 f1 (fun y0 y1 => ?_) (fun y => ?_)
    | refine x_bound _ _ _ ?_ ?_ ?_ (fun _ => ?_) (fun _ => ?_) (fun _ _ => ?_)
    | refine x_isIn w _ _ _ rfl cw ?_ ?_ (fun _ _ => ?_) (fun _ => ?_)
    | refine x_no _ ?_ (fun μr fr => ?_)
    | refine n_goesOn _ _ ci cn hm hw (by omega) (by omega) (by omega) (by omega) (fun μ2 h2 f37 f38 => ?_)
    | refine And.intro (fun h => absurd h (by omega)) (fun _ => ?_)
    | refine And.intro (fun _ => ?_) (fun h => absurd h (by omega))
    | refine kk _ _ h2 ?_
    | refine kk _ _ (gm_84 (fun _ => rfl) hm fr) ?_
    | refine And.intro (fun h => absurd h (by decide)) (fun _ => ?_)
    | refine And.intro (fun _ => ?_) (fun h => absurd (by decide) h)
    | refine And.intro (fun _ => ?_) (fun _ => ?_)
    | refine And.intro ?_ ?_
  all_goals (first | decide | omega | (unfold fp_onr; rw [e4, if_pos (by omega)]; done) | (unfold fp_onr; rw [e4, if_neg (by omega), if_pos (by omega)]; done) | (unfold fp_onr; rw [e4, if_neg (by omega), if_neg (by omega), if_pos (by omega)]; done) | (unfold fp_onr; rw [e4, if_neg (by omega), if_neg (by omega), if_neg (by omega), if_pos (by omega)]; done) | (unfold fp_onr; rw [e4, if_neg (by omega), if_neg (by omega), if_neg (by omega), if_neg (by omega), if_pos (by omega)]; exact f38) | (unfold fp_onr; rw [e4, if_neg (by omega), if_neg (by omega), if_neg (by omega), if_neg (by omega), if_neg (by omega)]; exact f37) | (trace_state; fail))
theorem s_winsAs {l : Launch} {ν : am_N} {Q : Option am_V → am_N → Prop} (g i n : Int) (ci : am_c i = i) (cn : am_c n = n) (hw : fp_fw 999 (fv ν 1)) (hg : 0 ≤ g ∧ g ≤ 5) (i0 : 0 ≤ i) (i1 : i < ν 1 4) (n0 : 0 ≤ n) (n1 : n ≤ 60) (hp : sx_3 ν 34) (hb : 0 ≤ ν 29 0 ∧ ν 29 0 ≤ 4) (k : ∀ μ' : am_N, (∀ a b, ¬(8 ≤ a ∧ a < 15) → a ≠ 33 → a ≠ 34 → ¬(a = 29 ∧ b = 0) → μ' a b = ν a b) → μ' 8 4 = ν 1 4 → sx_3 μ' 34 → (0 ≤ μ' 29 0 ∧ μ' 29 0 ≤ 4) → Q (some (.inl (fp_wn (fp_kd (fv ν 1) i.toNat g) i n.toNat))) μ') : am_Does l 126 [.inr (.inr 0), .inl g, .inl i, .inl n] ν Q := by
  refine am_Does_of (Nat.le_of_ble_eq_true rfl) (Nat.le_of_ble_eq_true rfl) (Nat.le_of_ble_eq_true rfl) ?_
  have h4 := (fw_C hw (by decide)).1.1
  have kk := fun (x : Int) (μ' : am_N) a1 a2 a3 a4 (e : x = fp_wn (fp_kd (fv ν 1) i.toNat g) i n.toNat) => am_qe (k μ' a1 a2 a3 a4) e
  refine am_go (ct := fun _ => false) am_oX6_winsAs 300 ?_
  conv => whnf
  repeat' first
    | (refine (?_ : am_wp _ _ _ _ _ _ _ _ _ _ _ _); conv => whnf)
    | (refine (?_ : am_sw _ _ _ _); conv => whnf)
    | refine And.intro trivial ?_
    | exact trivial
    | (refine x_take_8_1 (fun μ1 g1 s1 r1 => ?_); have p1 : fv μ1 8 = fv ν 1 := fv_tk s1 r1; have n8 : μ1 8 4 = ν 1 4 := s1 4 (by decide))
    | (have p2 : fv (am_up μ1 9 (am_c i).toNat g) 8 = (fp_kd (fv ν 1) i.toNat g) := (by rw [ci, show fv (am_up μ1 9 i.toNat g) 8 = fp_ct (am_up (fv μ1 8) 1 i.toNat g) from fv_up (c := 8) (a := 1) (by decide), p1]; rfl); have fr8 : ∀ a b, ¬(8 ≤ a ∧ a < 15) → am_up μ1 9 (am_c i).toNat g a b = μ1 a b := (fun a b q => am_upN (by omega)); refine s_winsIn _ _ ci cn (by rw [p2]; exact fw_kd hw hg) n0 n1 (by rw [am_upN (by decide), n8]; omega) (fun p hp2 => by rw [am_upN (by decide), g1 34 p (by omega)]; exact hp p hp2) (by rw [am_upN (by decide), g1 29 0 (by omega)]; exact hb) (fun μ2 g2 q2 b2 z2 => ?_))
    | refine kk _ _ ?_ ?_ b2 z2 ?_
    | refine And.intro (fun h => absurd h (by decide)) (fun _ => ?_)
    | refine And.intro (fun _ => ?_) (fun h => absurd (by decide) h)
    | refine And.intro (fun _ => ?_) (fun _ => ?_)
    | refine And.intro ?_ ?_
  all_goals (first | decide | omega | (rw [ci]; omega) | (intro a b q1 q3 q4 q5; exact (g2 a b q1 q3 q4 q5).trans ((fr8 a b q1).trans (g1 a b q1))) | (rw [← fv_0 (μ := μ2) (c := 8) (b := 4) (by decide), q2, fp_go_n, p2]; exact fv_0 (c := 1) (by decide)) | (rw [p2]) | (trace_state; fail))
theorem s_pays {l : Launch} {ν : am_N} {Q : Option am_V → am_N → Prop} (i n : Int) (ci : am_c i = i) (cn : am_c n = n) (hS : sx ν ν) (hw : fp_fw 999 (fv ν 1)) (k : ∀ μ' : am_N, sx ν μ' → Q (some (.inl (fp_pyr (fv ν 1) i n))) μ') : am_Does l 79 [.inr (.inr 0), .inl i, .inl n] ν Q := by
  refine am_Does_of (Nat.le_of_ble_eq_true rfl) (Nat.le_of_ble_eq_true rfl) (Nat.le_of_ble_eq_true rfl) ?_
  have l0 : am_c 0 = 0 := rfl
  have l1 : am_c 1 = 1 := rfl
  have l2 : am_c 2 = 2 := rfl
  have l3 : am_c 3 = 3 := rfl
  have l60 : am_c 60 = 60 := rfl
  have l99 : am_c 99 = 99 := rfl
  have m1' : am_c (-1) = -1 := rfl
  have m2' : am_c (-2) = -2 := rfl
  have m3' : am_c (-3) = -3 := rfl
  have m4' : am_c (-4) = -4 := rfl
  have m6' : am_c (-6) = -6 := rfl
  have m9' : am_c (-9) = -9 := rfl
  obtain ⟨hf, -, -, -, -, -, -⟩ := fw_C hw (by decide)
  have f0 := hf.1.1
  have f1 := hf.1.2
  have e4 : fv ν 1 0 4 = ν 1 4 := fv_0 (by decide)
  have h15 := hS.2.2.2.1
  have kk := fun (x : Int) (μ' : am_N) (h : sx ν μ') (e : x = fp_pyr (fv ν 1) i n) => am_qe (k μ' h) e
  refine am_go (ct := fun _ => false) am_oX6_pays 300 ?_
  conv => whnf
  repeat' first
    | (refine (?_ : am_wp _ _ _ _ _ _ _ _ _ _ _ _); conv => whnf)
    | (refine (?_ : am_sw _ _ _ _); conv => whnf)
    | refine And.intro trivial ?_
    | exact trivial
    | refine x_has1 _ f0 f1 (fun y0 y1 => ?_) (fun y => ?_)
    | refine x_refuseHigh _ ?_ (fun μr fr => ?_)
    | (have _q := g1; have eF : fv μ1 1 = fv ν 1 := fv_keep (fun a b q1 q2 => g1 a b (by omega) (by omega) (by omega) (by omega)); have e14 : μ1 1 4 = ν 1 4 := g1 1 4 (by omega) (by omega) (by omega) (by omega); refine s_winsAs _ _ _ ci cn (by rw [eF]; exact hw) (by decide) (by omega) (by rw [e14]; omega) (by omega) (by omega) b1 z1 (fun μ2 g2 n2 b2 z2 => ?_); have sE : sx ν μ2 := sx_lt hS (fun a b q1 q2 q3 q4 _ => (g2 a b q1 q2 q3 q4).trans (g1 a b q1 q2 q3 q4)) b2 (by rw [n2, e14]; omega) z2)
    | refine s_winsAs _ _ _ ci cn hw (by decide) (by omega) (by omega) (by omega) (by omega) hS.2.1 h15.2.2.1 (fun μ1 g1 n1 b1 z1 => ?_)
    | refine kk _ _ sE ?_
    | refine kk _ _ (sx_78 hS fr) ?_
    | refine And.intro (fun h => absurd h (by decide)) (fun _ => ?_)
    | refine And.intro (fun _ => ?_) (fun h => absurd (by decide) h)
    | refine And.intro (fun _ => ?_) (fun _ => ?_)
    | refine And.intro ?_ ?_
  all_goals (first | decide | omega | exact hw | (rw [eF]; exact hw) | (rw [e14]; omega) | exact hS.2.1 | exact h15.2.2.1 | exact b1 | exact z1 | (unfold fp_pyr; rw [e4, if_pos (by omega)]; rfl) | (unfold fp_pyr; rw [e4, if_neg (by omega), if_pos (by omega)]; rfl) | (unfold fp_pyr; rw [e4, if_neg (by omega), if_neg (by omega), if_pos (by omega)]; rfl) | (unfold fp_pyr; rw [e4, if_neg (by omega), if_neg (by omega), if_neg (by omega), eF]) | (trace_state; fail))
theorem n_pays {l : Launch} {ν : am_N} {Q : Option am_V → am_N → Prop} (i n : Int) (ci : am_c i = i) (cn : am_c n = n) (hm : mi ν) (hw : fp_fw 999 (mv ν)) (k : ∀ μ' : am_N, gm mQ ν μ' → Q (some (.inl (fp_pyr (mv ν) i n))) μ') : am_Does l 205 [.inr (.inr 83), .inl i, .inl n] ν Q := by
  refine am_Does_of (Nat.le_of_ble_eq_true rfl) (Nat.le_of_ble_eq_true rfl) (Nat.le_of_ble_eq_true rfl) ?_
  have l0 : am_c 0 = 0 := rfl
  have l1 : am_c 1 = 1 := rfl
  have l2 : am_c 2 = 2 := rfl
  have l3 : am_c 3 = 3 := rfl
  have l60 : am_c 60 = 60 := rfl
  have l99 : am_c 99 = 99 := rfl
  have m1' : am_c (-1) = -1 := rfl
  have m2' : am_c (-2) = -2 := rfl
  have m3' : am_c (-3) = -3 := rfl
  have m4' : am_c (-4) = -4 := rfl
  have m6' : am_c (-6) = -6 := rfl
  have m9' : am_c (-9) = -9 := rfl
  obtain ⟨hf, -, -, -, -, -, -⟩ := fw_M hw (by decide)
  have f0 := hf.1.1
  have f1 := hf.1.2
  have e4 : mv ν 0 4 = ν 83 14 := rfl
  have kk := fun (x : Int) (μ' : am_N) (h : gm mQ ν μ') (e : x = fp_pyr (mv ν) i n) => am_qe (k μ' h) e
  have ei : (am_c i).toNat = i.toNat := by rw [ci]
  have n85 : ∀ (μ : am_N) (v : Int), am_up μ 85 (am_c i).toNat v 83 14 = μ 83 14 := fun μ v => am_upN (by decide)
  refine am_go (ct := fun _ => false) am_oX7_pays 300 ?_
  conv => whnf
  repeat' first
    | (refine (?_ : am_wp _ _ _ _ _ _ _ _ _ _ _ _); conv => whnf)
    | (refine (?_ : am_sw _ _ _ _); conv => whnf)
    | refine And.intro trivial ?_
    | exact trivial
    | refine x_isRunnerT _ f0 f1 (fun y0 y1 => ?_) (fun y => ?_)
    | refine x_bound _ _ _ ?_ ?_ ?_ (fun _ => ?_) (fun _ => ?_) (fun _ _ => ?_)
    | refine x_lower _ ?_ (fun μr fr => ?_)
    | (have _q := h1; have p2 : mv (am_up μ1 85 (am_c i).toNat 0) = fp_kd (mv ν) i.toNat 0 := (by rw [ei]; exact mv_but (a := 0) (by decide) (fun x b q d => (h1.2 x b q).trans (by rw [ei]; exact am_uE d))); have e14 : μ1 83 14 = ν 83 14 := (h1.2 83 14 rfl).trans (am_upN (by decide)); refine n_goesOn _ _ ci cn (mi_up h1.1 rfl) (by rw [p2]; exact fw_kd hw (by decide)) (by omega) (by omega) (by omega) (by rw [n85, e14]; omega) (fun μ2 h2 f2 _ => ?_); have hE : gm mQ ν (am_up μ2 85 (am_c i).toNat (ν 85 (am_c i).toNat)) := ⟨mi_up h2.1 rfl, fun a b q => by (by_cases d : a = 85 ∧ b = (am_c i).toNat; (rw [am_upS, if_pos d, d.1, d.2]); (rw [am_uE d, h2.2 a b q, am_uE d, h1.2 a b q, am_uE d]))⟩)
    | (have p1 : mv (am_up ν 85 (am_c i).toNat 3) = fp_kd (mv ν) i.toNat 3 := (by rw [ei]; exact mv_but (a := 0) (by decide) (fun x b q d => rfl)); refine n_goesOn _ _ ci cn (mi_up hm rfl) (by rw [p1]; exact fw_kd hw (by decide)) (by omega) (by omega) (by omega) (by rw [n85]; omega) (fun μ1 h1 f1 _ => ?_))
    | refine And.intro (fun h => absurd h (by omega)) (fun _ => ?_)
    | refine And.intro (fun _ => ?_) (fun h => absurd h (by omega))
    | refine kk _ _ hE ?_
    | refine kk _ _ (gm_84 (fun _ => rfl) hm fr) ?_
    | refine And.intro (fun h => absurd h (by decide)) (fun _ => ?_)
    | refine And.intro (fun _ => ?_) (fun h => absurd (by decide) h)
    | refine And.intro (fun _ => ?_) (fun _ => ?_)
    | refine And.intro ?_ ?_
  all_goals (first | decide | omega | (rw [ci]; omega) | exact mi_up hm rfl | exact mi_up h1.1 rfl | (rw [p1]; exact fw_kd hw (by decide)) | (rw [p2]; exact fw_kd hw (by decide)) | (rw [n85]; omega) | (unfold fp_pyr; rw [e4, if_pos (by omega)]; rfl) | (unfold fp_pyr; rw [e4, if_neg (by omega), if_pos (by omega)]; rfl) | (unfold fp_pyr; rw [e4, if_neg (by omega), if_neg (by omega), if_pos (by omega)]; rfl) | (unfold fp_pyr; rw [e4, if_neg (by omega), if_neg (by omega), if_neg (by omega), am_upN (by decide), f2, f1, p1, p2]) | (trace_state; fail))
theorem s_had {l : Launch} {ν : am_N} {Q : Option am_V → am_N → Prop} (i n g w : Int) (ci : am_c i = i) (cn : am_c n = n) (cg : am_c g = g) (cw : am_c w = w) (hS : sx ν ν) (hw : fp_fw 999 (fv ν 1)) (k : ∀ μ' : am_N, sx ν μ' → Q (some (.inl (fp_hdr (fv ν 1) i n g w))) μ') : am_Does l 106 [.inr (.inr 0), .inl i, .inl n, .inl g, .inl w] ν Q := by
  refine am_Does_of (Nat.le_of_ble_eq_true rfl) (Nat.le_of_ble_eq_true rfl) (Nat.le_of_ble_eq_true rfl) ?_
  have l0 : am_c 0 = 0 := rfl
  have l1 : am_c 1 = 1 := rfl
  have l2 : am_c 2 = 2 := rfl
  have l3 : am_c 3 = 3 := rfl
  have l60 : am_c 60 = 60 := rfl
  have l99 : am_c 99 = 99 := rfl
  have m1' : am_c (-1) = -1 := rfl
  have m2' : am_c (-2) = -2 := rfl
  have m3' : am_c (-3) = -3 := rfl
  have m4' : am_c (-4) = -4 := rfl
  have m6' : am_c (-6) = -6 := rfl
  have m9' : am_c (-9) = -9 := rfl
  obtain ⟨hf, -, -, -, -, -, -⟩ := fw_C hw (by decide)
  have f0 := hf.1.1
  have f1 := hf.1.2
  have e4 : fv ν 1 0 4 = ν 1 4 := fv_0 (by decide)
  have h15 := hS.2.2.2.1
  have kk := fun (x : Int) (μ' : am_N) (h : sx ν μ') (e : x = fp_hdr (fv ν 1) i n g w) => am_qe (k μ' h) e
  have lp76 : ∀ (m : Nat) (x y s : Int) (μ : am_N) , (∀ a b, ¬(8 ≤ a ∧ a < 15) → a ≠ 33 → a ≠ 34 → ¬(a = 29 ∧ b = 0) → μ a b = ν a b) → -1 ≤ s → s ≤ 99 → x = fq_cd (fp_hp (fv ν 1) i n g) 100 (99 - s).toNat → y = fq_ld (fp_hp (fv ν 1) i n g) 100 (99 - s).toNat → sx_3 μ 34 → (0 ≤ μ 8 4 ∧ μ 8 4 ≤ 4) → (0 ≤ μ 29 0 ∧ μ 29 0 ≤ 4) → (0 ≤ i ∧ i < ν 1 4) → (0 ≤ n ∧ n ≤ 60) → (0 ≤ g ∧ g ≤ n) → (w = 0 ∨ w = 1) → s + 1 < (m : Int) → am_AW l 0 (fun _ => 0) 106 Q 76 [some (.inr (.inr 0)), some (.inl i), some (.inl n), some (.inl g), some (.inl w), some (.inl x), some (.inl y), some (.inl s)] [] μ := by
    intro m
    induction m with
    | zero =>
      intro x y s μ hv0 hv1 hv2 hv3 hv4 hv5 hv6 hv7 hv8 hv9 hv10 hv11 hm
      exfalso
      omega
    | succ m ih =>
      intro x y s μ hv0 hv1 hv2 hv3 hv4 hv5 hv6 hv7 hv8 hv9 hv10 hv11 hm
      have cs : am_c s = s := am_cR (by omega) (by omega)
      have sE : sx ν μ := sx_lt hS (fun a b q1 q2 q3 q4 _ => hv0 a b q1 q2 q3 q4) hv5 hv6 hv7
      have eF : fv μ 1 = (fv ν 1) := fv_keep (fun a b q1 q2 => hv0 a b (by omega) (by omega) (by omega) (by omega))
      have dn := fun q : 0 ≤ s => fq_dn (P := (fp_hp (fv ν 1) i n g)) q hv2
      have wb := fp_wn_b (fp_sd (fv ν 1) i.toNat s) i n.toNat
      have cwn : am_c (fp_wn (fp_sd (fv ν 1) i.toNat s) i n.toNat) = fp_wn (fp_sd (fv ν 1) i.toNat s) i n.toNat := am_cR (by omega) (by omega)
      have e14 : μ 1 4 = ν 1 4 := hv0 1 4 (by omega) (by omega) (by omega) (by omega)
      refine am_go (ct := fun pc => Nat.beq pc 76) am_oX6_had 300 ?_
      conv => whnf
      repeat' first
        | (refine (?_ : am_wp _ _ _ _ _ _ _ _ _ _ _ _); conv => whnf)
        | (refine (?_ : am_sw _ _ _ _); conv => whnf)
        | refine And.intro trivial ?_
        | exact trivial
        | (have s0 : 0 ≤ s := (by rw [cs] at *; omega); refine x_take_8_1 (fun μ1 g1 s1 r1 => ?_); have p1 : fv μ1 8 = fv ν 1 := (fv_tk s1 r1).trans eF; have n8 : μ1 8 4 = ν 1 4 := (s1 4 (by decide)).trans e14)
        | (have p2 : fv (am_up μ1 13 (am_c i).toNat s) 8 = fp_sd (fv ν 1) i.toNat s := (by rw [ci, show fv (am_up μ1 13 i.toNat s) 8 = fp_ct (am_up (fv μ1 8) 5 i.toNat s) from fv_up (c := 8) (a := 5) (by decide), p1]; rfl); have fr8 : ∀ a b, ¬(8 ≤ a ∧ a < 15) → am_up μ1 13 (am_c i).toNat s a b = μ1 a b := (fun a b q => am_upN (by omega)); refine s_winsIn _ _ ci cn (by rw [p2]; exact fw_sd hw ⟨s0, hv2⟩) hv9.1 hv9.2 (by rw [am_upN (by decide), n8]; omega) (fun p hp2 => by rw [am_upN (by decide), g1 34 p (by omega)]; exact hv5 p hp2) (by rw [am_upN (by decide), g1 29 0 (by omega)]; exact hv7) (fun μ2 g2 q2 b2 z2 => ?_); have ps : (fp_hp (fv ν 1) i n g) s.toNat = decide (fp_wn (fp_sd (fv ν 1) i.toNat s) i n.toNat = g) := (by unfold fp_hp; rw [Int.toNat_of_nonneg s0]))
        | refine kk _ _ sE ?_
        | refine x_has1 _ f0 f1 (fun y0 y1 => ?_) (fun y => ?_)
        | refine x_refuse _ ?_ (fun μr fr => ?_)
        | refine x_noPart _ cw (fun z => ?_) (fun z => ?_)
        | refine kk _ _ (sx_78 hS fr) ?_
        | refine ih _ _ _ _ ?_ ?_ ?_ ?_ ?_ ?_ ?_ ?_ ?_ ?_ ?_ ?_ ?_
        | refine And.intro (fun h => absurd h (by decide)) (fun _ => ?_)
        | refine And.intro (fun _ => ?_) (fun h => absurd (by decide) h)
        | refine And.intro (fun _ => ?_) (fun _ => ?_)
        | refine And.intro ?_ ?_
      all_goals (first | decide | assumption | omega | (rw [ci]; omega) | (intro a b q1 q3 q4 q5; exact (g2 a b q1 q3 q4 q5).trans ((fr8 a b q1).trans ((g1 a b q1).trans (hv0 a b q1 q3 q4 q5)))) | (rw [← fv_0 (μ := μ2) (c := 8) (b := 4) (by decide), q2, fp_go_n, p2]; rw [show fp_sd (fv ν 1) i.toNat s 0 4 = ν 1 4 from e4]; omega) | (rw [(dn s0).1, ps, hv3]; first | (rw [show decide (fp_wn (fp_sd (fv ν 1) i.toNat s) i n.toNat = g) = true from decide_eq_true (by rw [p2, cwn, cg] at *; omega)]; rfl) | (rw [show decide (fp_wn (fp_sd (fv ν 1) i.toNat s) i n.toNat = g) = false from decide_eq_false (by rw [p2, cwn, cg] at *; omega)]; rfl)) | (rw [(dn s0).2, ps]; first | (rw [show decide (fp_wn (fp_sd (fv ν 1) i.toNat s) i n.toNat = g) = true from decide_eq_true (by rw [p2, cwn, cg] at *; omega)]; rfl) | (rw [show decide (fp_wn (fp_sd (fv ν 1) i.toNat s) i n.toNat = g) = false from decide_eq_false (by rw [p2, cwn, cg] at *; omega), hv4]; rfl)) | (have se : (99 - s).toNat = 100 := (by rw [cs] at *; omega); rw [se] at hv3 hv4; (unfold fp_hdr; rw [e4, if_neg (by omega), if_neg (by omega), if_neg (by omega), if_neg (by omega)]; first | (rw [if_pos (by simp only [cw, l0] at *; omega), hv3, fq_c_N]) | (rw [if_neg (by simp only [cw, l0] at *; omega), hv4, fq_l_N]))) | (trace_state; fail))
  have lp76' : ∀ (x y s : Int) (μ : am_N) , (∀ a b, ¬(8 ≤ a ∧ a < 15) → a ≠ 33 → a ≠ 34 → ¬(a = 29 ∧ b = 0) → μ a b = ν a b) → -1 ≤ s → s ≤ 99 → x = fq_cd (fp_hp (fv ν 1) i n g) 100 (99 - s).toNat → y = fq_ld (fp_hp (fv ν 1) i n g) 100 (99 - s).toNat → sx_3 μ 34 → (0 ≤ μ 8 4 ∧ μ 8 4 ≤ 4) → (0 ≤ μ 29 0 ∧ μ 29 0 ≤ 4) → (0 ≤ i ∧ i < ν 1 4) → (0 ≤ n ∧ n ≤ 60) → (0 ≤ g ∧ g ≤ n) → (w = 0 ∨ w = 1) → am_AW l 0 (fun _ => 0) 106 Q 76 [some (.inr (.inr 0)), some (.inl i), some (.inl n), some (.inl g), some (.inl w), some (.inl x), some (.inl y), some (.inl s)] [] μ := fun x y s μ hv0 hv1 hv2 hv3 hv4 hv5 hv6 hv7 hv8 hv9 hv10 hv11 => lp76 ((s + 1) + 1).toNat x y s μ hv0 hv1 hv2 hv3 hv4 hv5 hv6 hv7 hv8 hv9 hv10 hv11 (by omega)
  refine am_go (ct := fun pc => Nat.beq pc 76) am_oX6_had 300 ?_
  conv => whnf
  repeat' first
    | (refine (?_ : am_wp _ _ _ _ _ _ _ _ _ _ _ _); conv => whnf)
    | (refine (?_ : am_sw _ _ _ _); conv => whnf)
    | refine And.intro trivial ?_
    | exact trivial
    | refine x_has1 _ f0 f1 (fun y0 y1 => ?_) (fun y => ?_)
    | refine x_refuse _ ?_ (fun μr fr => ?_)
    | refine x_noPart _ cw (fun z => ?_) (fun z => ?_)
    | refine kk _ _ (sx_78 hS fr) ?_
    | refine lp76' _ _ _ _ ?_ ?_ ?_ ?_ ?_ ?_ ?_ ?_ ?_ ?_ ?_ ?_
    | refine And.intro (fun h => absurd h (by decide)) (fun _ => ?_)
    | refine And.intro (fun _ => ?_) (fun h => absurd (by decide) h)
    | refine And.intro (fun _ => ?_) (fun _ => ?_)
    | refine And.intro ?_ ?_
  all_goals (first | decide | assumption | omega | rfl | (intros; rfl) | exact hS.2.1 | exact h15.1 | exact h15.1.1 | exact h15.1.2 | exact h15.2.2.1 | exact h15.2.2.1.1 | exact h15.2.2.1.2 | (unfold fp_hdr; rw [e4, if_pos (by omega)]; done) | (unfold fp_hdr; rw [e4, if_neg (by omega), if_pos (by omega)]; done) | (unfold fp_hdr; rw [e4, if_neg (by omega), if_neg (by omega), if_pos (by omega)]; done) | (unfold fp_hdr; rw [e4, if_neg (by omega), if_neg (by omega), if_neg (by omega), if_pos (by omega)]; done) | (trace_state; fail))
theorem n_had {l : Launch} {ν : am_N} {Q : Option am_V → am_N → Prop} (i n g w : Int) (ci : am_c i = i) (cn : am_c n = n) (cg : am_c g = g) (cw : am_c w = w) (hm : mi ν) (hw : fp_fw 999 (mv ν)) (k : ∀ μ' : am_N, gm mQ ν μ' → Q (some (.inl (fp_hdr (mv ν) i n g w))) μ') : am_Does l 239 [.inr (.inr 83), .inl i, .inl n, .inl g, .inl w] ν Q := by
  refine am_Does_of (Nat.le_of_ble_eq_true rfl) (Nat.le_of_ble_eq_true rfl) (Nat.le_of_ble_eq_true rfl) ?_
  have l0 : am_c 0 = 0 := rfl
  have l1 : am_c 1 = 1 := rfl
  have l2 : am_c 2 = 2 := rfl
  have l3 : am_c 3 = 3 := rfl
  have l60 : am_c 60 = 60 := rfl
  have l99 : am_c 99 = 99 := rfl
  have m1' : am_c (-1) = -1 := rfl
  have m2' : am_c (-2) = -2 := rfl
  have m3' : am_c (-3) = -3 := rfl
  have m4' : am_c (-4) = -4 := rfl
  have m6' : am_c (-6) = -6 := rfl
  have m9' : am_c (-9) = -9 := rfl
  obtain ⟨hf, -, -, -, -, -, -⟩ := fw_M hw (by decide)
  have f0 := hf.1.1
  have f1 := hf.1.2
  have e4 : mv ν 0 4 = ν 83 14 := rfl
  have kk := fun (x : Int) (μ' : am_N) (h : gm mQ ν μ') (e : x = fp_hdr (mv ν) i n g w) => am_qe (k μ' h) e
  have ei : (am_c i).toNat = i.toNat := by rw [ci]
  have lp89 : ∀ (m : Nat) (y z x t v : Int) (μ : am_N) , mi μ → (∀ a b, mQ a b = false → ¬(a = 89 ∧ b = i.toNat) → μ a b = ν a b) → 0 ≤ v → v ≤ 100 → x = fq_cu (fp_hp (mv ν) i n g) v.toNat → t = fq_lu (fp_hp (mv ν) i n g) v.toNat → (0 ≤ i ∧ i < ν 83 14) → (0 ≤ n ∧ n ≤ 60) → (0 ≤ g ∧ g ≤ n) → (w = 0 ∨ w = 1) → z = ν 89 i.toNat → 100 - v < (m : Int) → am_AW l 0 (fun _ => 0) 239 Q 89 [some (.inr (.inr 83)), some (.inl i), some (.inl n), some (.inl g), some (.inl w), some (.inl y), some (.inl z), some (.inl x), some (.inl t), some (.inl v)] [] μ := by
    intro m
    induction m with
    | zero =>
      intro y z x t v μ hv0 hv1 hv2 hv3 hv4 hv5 hv6 hv7 hv8 hv9 hv10 hm
      exfalso
      omega
    | succ m ih =>
      intro y z x t v μ hv0 hv1 hv2 hv3 hv4 hv5 hv6 hv7 hv8 hv9 hv10 hm
      have cv2 : am_c v = v := am_cR (by omega) (by omega)
      have p2 : mv (am_up μ 89 (am_c i).toNat v) = fp_sd (mv ν) i.toNat v := by rw [ei]; exact mv_but (a := 4) (by decide) hv1
      have wb := fp_wn_b (fp_sd (mv ν) i.toNat v) i n.toNat
      have cwn : am_c (fp_wn (fp_sd (mv ν) i.toNat v) i n.toNat) = fp_wn (fp_sd (mv ν) i.toNat v) i n.toNat := am_cR (by omega) (by omega)
      have e14 : am_up μ 89 (am_c i).toNat v 83 14 = ν 83 14 := (am_upN (by decide)).trans (hv1 83 14 rfl (by omega))
      have ps : (fp_hp (mv ν) i n g) v.toNat = decide (fp_wn (fp_sd (mv ν) i.toNat v) i n.toNat = g) := by unfold fp_hp; rw [Int.toNat_of_nonneg hv2]
      have xb := fq_cu_b (fp_hp (mv ν) i n g) v.toNat
      have cx : am_c x = x := am_cR (by omega) (by omega)
      have hE : gm mQ ν (am_up μ 89 (am_c i).toNat z) := ⟨mi_up hv0 rfl, fun a b q => by (by_cases d : a = 89 ∧ b = (am_c i).toNat; (rw [am_upS, if_pos d, d.1, d.2, ei]; exact hv10); (rw [am_uE d]; exact hv1 a b q (by rw [ei] at d; exact d)))⟩
      refine am_go (ct := fun pc => Nat.beq pc 89) am_oX7_had 300 ?_
      conv => whnf
      repeat' first
        | (refine (?_ : am_wp _ _ _ _ _ _ _ _ _ _ _ _); conv => whnf)
        | (refine (?_ : am_sw _ _ _ _); conv => whnf)
        | refine And.intro trivial ?_
        | exact trivial
        | (have v9 : v ≤ 99 := (by rw [cv2, l99] at *; omega); refine n_goesOn _ _ ci cn (mi_up hv0 rfl) (by rw [p2]; exact fw_sd hw ⟨hv2, v9⟩) hv7.1 hv7.2 hv6.1 (by rw [e14]; exact hv6.2) (fun μ2 h2 f2 _ => ?_))
        | exact h2.1
        | refine kk _ _ hE ?_
        | exact hm
        | refine x_isRunnerT _ f0 f1 (fun y0 y1 => ?_) (fun y => ?_)
        | refine x_isIn w _ _ _ rfl cw ?_ ?_ (fun _ _ => ?_) (fun _ => ?_)
        | refine x_no _ ?_ (fun μr fr => ?_)
        | refine And.intro (fun h => absurd h (by omega)) (fun _ => ?_)
        | refine And.intro (fun _ => ?_) (fun h => absurd h (by omega))
        | refine kk _ _ (gm_84 (fun _ => rfl) hm fr) ?_
        | refine ih _ _ _ _ _ _ ?_ ?_ ?_ ?_ ?_ ?_ ?_ ?_ ?_ ?_ ?_ ?_
        | refine And.intro (fun h => absurd h (by decide)) (fun _ => ?_)
        | refine And.intro (fun _ => ?_) (fun h => absurd (by decide) h)
        | refine And.intro (fun _ => ?_) (fun _ => ?_)
        | refine And.intro ?_ ?_
      all_goals (first | decide | assumption | omega | (rw [ci]; omega) | exact h2.1 | (intro a b q d; rw [h2.2 a b q, am_uE (by rw [ei]; exact d)]; exact hv1 a b q d) | (rw [show (v + 1).toNat = v.toNat + 1 by omega]; simp only [fq_cu]; rw [ps]; first | (rw [show decide (fp_wn (fp_sd (mv ν) i.toNat v) i n.toNat = g) = true from decide_eq_true (by rw [f2, p2, cwn, cg] at *; omega)]; show x + 1 = fq_cu _ _ + 1; rw [hv4]) | (rw [show decide (fp_wn (fp_sd (mv ν) i.toNat v) i n.toNat = g) = false from decide_eq_false (by rw [f2, p2, cwn, cg] at *; omega)]; show x = fq_cu _ _; exact hv4)) | (rw [show (v + 1).toNat = v.toNat + 1 by omega]; simp only [fq_lu]; rw [ps]; first | (rw [show decide (fp_wn (fp_sd (mv ν) i.toNat v) i n.toNat = g) = true from decide_eq_true (by rw [f2, p2, cwn, cg] at *; omega)]; show _ = (if fq_cu _ _ = 0 then _ else _); first | (rw [if_pos (by rw [← hv4]; simp only [cx] at *; omega)]; omega) | (rw [if_neg (by rw [← hv4]; simp only [cx] at *; omega)]; exact hv5)) | (rw [show decide (fp_wn (fp_sd (mv ν) i.toNat v) i n.toNat = g) = false from decide_eq_false (by rw [f2, p2, cwn, cg] at *; omega)]; show t = fq_lu _ _; exact hv5)) | (have se : v.toNat = 100 := (by rw [cv2, l99] at *; omega); rw [se] at hv4 hv5; (unfold fp_hdr; rw [e4, if_neg (by omega), if_neg (by omega), if_neg (by omega), if_neg (by omega)]; first | (rw [if_pos (by simp only [cw, l0] at *; omega), hv4]) | (rw [if_neg (by simp only [cw, l0] at *; omega), hv5]))) | (trace_state; fail))
  have lp89' : ∀ (y z x t v : Int) (μ : am_N) , mi μ → (∀ a b, mQ a b = false → ¬(a = 89 ∧ b = i.toNat) → μ a b = ν a b) → 0 ≤ v → v ≤ 100 → x = fq_cu (fp_hp (mv ν) i n g) v.toNat → t = fq_lu (fp_hp (mv ν) i n g) v.toNat → (0 ≤ i ∧ i < ν 83 14) → (0 ≤ n ∧ n ≤ 60) → (0 ≤ g ∧ g ≤ n) → (w = 0 ∨ w = 1) → z = ν 89 i.toNat → am_AW l 0 (fun _ => 0) 239 Q 89 [some (.inr (.inr 83)), some (.inl i), some (.inl n), some (.inl g), some (.inl w), some (.inl y), some (.inl z), some (.inl x), some (.inl t), some (.inl v)] [] μ := fun y z x t v μ hv0 hv1 hv2 hv3 hv4 hv5 hv6 hv7 hv8 hv9 hv10 => lp89 ((100 - v) + 1).toNat y z x t v μ hv0 hv1 hv2 hv3 hv4 hv5 hv6 hv7 hv8 hv9 hv10 (by omega)
  refine am_go (ct := fun pc => Nat.beq pc 89) am_oX7_had 300 ?_
  conv => whnf
  repeat' first
    | (refine (?_ : am_wp _ _ _ _ _ _ _ _ _ _ _ _); conv => whnf)
    | (refine (?_ : am_sw _ _ _ _); conv => whnf)
    | refine And.intro trivial ?_
    | exact trivial
    | exact hm
    | refine x_isRunnerT _ f0 f1 (fun y0 y1 => ?_) (fun y => ?_)
    | refine x_isIn w _ _ _ rfl cw ?_ ?_ (fun _ _ => ?_) (fun _ => ?_)
    | refine x_no _ ?_ (fun μr fr => ?_)
    | refine And.intro (fun h => absurd h (by omega)) (fun _ => ?_)
    | refine And.intro (fun _ => ?_) (fun h => absurd h (by omega))
    | refine kk _ _ (gm_84 (fun _ => rfl) hm fr) ?_
    | refine lp89' _ _ _ _ _ _ ?_ ?_ ?_ ?_ ?_ ?_ ?_ ?_ ?_ ?_ ?_
    | refine And.intro (fun h => absurd h (by decide)) (fun _ => ?_)
    | refine And.intro (fun _ => ?_) (fun h => absurd (by decide) h)
    | refine And.intro (fun _ => ?_) (fun _ => ?_)
    | refine And.intro ?_ ?_
  all_goals (first | decide | assumption | omega | rfl | (intros; rfl) | (rw [ci]; omega) | (rw [ei]) | (unfold fp_hdr; rw [e4, if_pos (by omega)]; done) | (unfold fp_hdr; rw [e4, if_neg (by omega), if_pos (by omega)]; done) | (unfold fp_hdr; rw [e4, if_neg (by omega), if_neg (by omega), if_pos (by omega)]; done) | (unfold fp_hdr; rw [e4, if_neg (by omega), if_neg (by omega), if_neg (by omega), if_pos (by omega)]; done) | (trace_state; fail))
/-! LIKELY: all races -/
def fp_su (f : Nat → Int) : Nat → Int
  | 0 => 0
  | k + 1 => fp_su f k + f k
theorem fp_su_e {f g : Nat → Int} : ∀ N : Nat, (∀ k : Nat, k < N → f k = g k) → fp_su f N = fp_su g N := by
  intro N
  induction N with
  | zero => intro _; rfl
  | succ N ih =>
    intro h
    show fp_su f N + f N = fp_su g N + g N
    rw [ih (fun k hk => h k (by omega)), h N (by omega)]
theorem fp_su_a (f : Nat → Int) (a : Nat) : ∀ b : Nat, fp_su f (a + b) = fp_su f a + fp_su (fun q => f (a + q)) b := by
  intro b
  induction b with
  | zero => exact (Int.add_zero _).symm
  | succ b ih =>
    show fp_su f (a + b) + f (a + b) = fp_su f a + (fp_su (fun q => f (a + q)) b + f (a + b))
    rw [ih, Int.add_assoc]
theorem fp_su_m (g : Nat → Int) (c : Int) : ∀ N : Nat, fp_su (fun k => g k * c) N = fp_su g N * c := by
  intro N
  induction N with
  | zero => exact (Int.zero_mul _).symm
  | succ N ih =>
    show fp_su (fun k => g k * c) N + g N * c = (fp_su g N + g N) * c
    rw [ih, Int.add_mul]
theorem fp_su_p (f g : Nat → Int) : ∀ N : Nat, fp_su (fun k => f k + g k) N = fp_su f N + fp_su g N := by
  intro N
  induction N with
  | zero => rfl
  | succ N ih =>
    show fp_su (fun k => f k + g k) N + (f N + g N) = (fp_su f N + f N) + (fp_su g N + g N)
    rw [ih]
    omega
/-- the part of a runner in a race's number -/
def fp_dj (k j : Nat) : Nat := k / 4 ^ j % 4
theorem fp_dj_4 (k j : Nat) : fp_dj k j < 4 := Nat.mod_lt _ (by decide)
theorem fp_dj_l {n j q d : Nat} (hj : j < n) (hn : n ≤ 3) : fp_dj (d * 4 ^ n + q) j = fp_dj q j := by
  unfold fp_dj
  rcases (show (n = 1 ∧ j = 0) ∨ (n = 2 ∧ j = 0) ∨ (n = 2 ∧ j = 1) ∨ (n = 3 ∧ j = 0) ∨ (n = 3 ∧ j = 1) ∨ (n = 3 ∧ j = 2) by omega) with ⟨rfl, rfl⟩ | ⟨rfl, rfl⟩ | ⟨rfl, rfl⟩ | ⟨rfl, rfl⟩ | ⟨rfl, rfl⟩ | ⟨rfl, rfl⟩
  · show (d * 4 + q) / 1 % 4 = q / 1 % 4; omega
  · show (d * 16 + q) / 1 % 4 = q / 1 % 4; omega
  · show (d * 16 + q) / 4 % 4 = q / 4 % 4; omega
  · show (d * 64 + q) / 1 % 4 = q / 1 % 4; omega
  · show (d * 64 + q) / 4 % 4 = q / 4 % 4; omega
  · show (d * 64 + q) / 16 % 4 = q / 16 % 4; omega
theorem fp_dj_t {n q d : Nat} (hq : q < 4 ^ n) (hd : d < 4) (hn : n ≤ 3) : fp_dj (d * 4 ^ n + q) n = d := by
  unfold fp_dj
  rcases (show n = 0 ∨ n = 1 ∨ n = 2 ∨ n = 3 by omega) with rfl | rfl | rfl | rfl
  · have hq : q < 1 := hq; show (d * 1 + q) / 1 % 4 = d; omega
  · have hq : q < 4 := hq; show (d * 4 + q) / 4 % 4 = d; omega
  · have hq : q < 16 := hq; show (d * 16 + q) / 16 % 4 = d; omega
  · have hq : q < 64 := hq; show (d * 64 + q) / 64 % 4 = d; omega
theorem fp_su_4 {f g c : Nat → Int} {n : Nat} (h : ∀ d q : Nat, d < 4 → q < 4 ^ n → f (d * 4 ^ n + q) = g q * c d) : fp_su f (4 ^ (n + 1)) = fp_su g (4 ^ n) * (c 0 + c 1 + c 2 + c 3) := by
  have e : ∀ d o : Nat, d < 4 → o = d * 4 ^ n → fp_su (fun q => f (o + q)) (4 ^ n) = fp_su g (4 ^ n) * c d := fun d o hd ho => by
    rw [fp_su_e (g := fun q => g q * c d) _ (fun q hq => by show f (o + q) = _; rw [ho]; exact h d q hd hq)]
    exact fp_su_m g (c d) _
  have e0 := e 0 0 (by decide) (by omega)
  have e1 := e 1 (4 ^ n) (by decide) (by omega)
  have e2 := e 2 (4 ^ n + 4 ^ n) (by decide) (by omega)
  have e3 := e 3 (4 ^ n + 4 ^ n + 4 ^ n) (by decide) (by omega)
  rw [show 4 ^ (n + 1) = 4 ^ n + 4 ^ n + 4 ^ n + 4 ^ n by rw [Nat.pow_succ]; omega, fp_su_a f (4 ^ n + 4 ^ n + 4 ^ n), fp_su_a f (4 ^ n + 4 ^ n), fp_su_a f (4 ^ n), e1, e2, e3, Int.mul_add, Int.mul_add, Int.mul_add, ← e0]
  rw [show (fun q => f (0 + q)) = f from funext (fun q => by rw [Nat.zero_add])]
/-- one behind v: 1, else 0 -/
def fp_b1 (v a : Int) : Int := if v ≤ a then 1 else 0
theorem fp_b1_q {v u r : Int} (hr : 0 ≤ r) (hu : 1 ≤ u) : fp_b1 v (fp_pt u r 0) + fp_b1 v (fp_pt u r 1) + fp_b1 v (fp_pt u r 2) + fp_b1 v (fp_pt u r 3) = fp_qu (fp_pt u r 0) u (u + r) v := by
  have h0 : fp_pt u r 0 ≤ u := by rw [fp_pt_0]; split <;> omega
  show fp_b1 v (fp_pt u r 0) + fp_b1 v u + fp_b1 v u + fp_b1 v (u + r) = _
  unfold fp_b1 fp_qu
  (repeat' split) <;> omega
/-- all others of the first j are behind r, who takes t: 1, else 0 -/
def fp_bn (T s : Nat → Int) (r : Nat) (t : Int) (k : Nat) : Nat → Int
  | 0 => 1
  | j + 1 => if j = r then fp_bn T s r t k j else fp_bn T s r t k j * fp_b1 (if j < r then t + 1 else t) (fp_pt (T j) (s j) (fp_dj k j))
theorem fp_bn_r {T s : Nat → Int} {r k : Nat} {t : Int} : fp_bn T s r t k (r + 1) = fp_bn T s r t k r := if_pos rfl
theorem fp_bn_s {T s : Nat → Int} {r k n : Nat} {t : Int} (h : n ≠ r) : fp_bn T s r t k (n + 1) = fp_bn T s r t k n * fp_b1 (if n < r then t + 1 else t) (fp_pt (T n) (s n) (fp_dj k n)) := if_neg h
theorem fp_bn_e {T s : Nat → Int} {r k q : Nat} {t : Int} : ∀ n : Nat, (∀ j : Nat, j < n → fp_dj k j = fp_dj q j) → fp_bn T s r t k n = fp_bn T s r t q n := by
  intro n
  induction n with
  | zero => intro _; rfl
  | succ n ih =>
    intro h
    simp only [fp_bn]
    rw [ih (fun j hj => h j (by omega)), h n (by omega)]
def fp_wl (T s : Nat → Int) (r : Nat) (t : Int) (n : Nat) : Int := fp_wa (fun q => fp_pt (T q) (s q) 0) T (fun q => T q + s q) r t n
theorem fp_wl_s {T s : Nat → Int} {r n : Nat} {t : Int} (h : n ≠ r) : fp_wl T s r t (n + 1) = fp_wl T s r t n * fp_qu (fp_pt (T n) (s n) 0) (T n) (T n + s n) (if n < r then t + 1 else t) := if_neg h
theorem fp_wl_r {T s : Nat → Int} {r : Nat} {t : Int} : fp_wl T s r t (r + 1) = fp_wl T s r t r := if_pos rfl
theorem fp_sA {T s : Nat → Int} {r : Nat} {t : Int} (hT : ∀ j : Nat, j < 4 → 1 ≤ T j) (hs : ∀ j : Nat, j < 4 → 0 ≤ s j) : ∀ n : Nat, n ≤ r → n ≤ 4 → fp_su (fun k => fp_bn T s r t k n) (4 ^ n) = fp_wl T s r t n := by
  intro n
  induction n with
  | zero => intro _ _; rfl
  | succ n ih =>
    intro h1 h2
    rw [fp_wl_s (by omega), ← ih (by omega) (by omega), ← fp_b1_q (hs n (by omega)) (hT n (by omega))]
    exact fp_su_4 (g := fun k => fp_bn T s r t k n) (c := fun d => fp_b1 (if n < r then t + 1 else t) (fp_pt (T n) (s n) d)) (fun d q hd hq => by
      show fp_bn T s r t (d * 4 ^ n + q) (n + 1) = _
      rw [fp_bn_s (by omega), fp_dj_t hq hd (by omega), fp_bn_e n (fun j hj => fp_dj_l hj (by omega))])
theorem fp_sB {T s : Nat → Int} {r e : Nat} {t : Int} (hT : ∀ j : Nat, j < 4 → 1 ≤ T j) (hs : ∀ j : Nat, j < 4 → 0 ≤ s j) (he : e < 4) : ∀ n : Nat, r < n → n ≤ 4 → fp_su (fun k => (if fp_dj k r = e then 1 else 0) * fp_bn T s r t k n) (4 ^ n) = fp_wl T s r t n := by
  intro n
  induction n with
  | zero => intro h; exact absurd h (by omega)
  | succ n ih =>
    intro h1 h2
    by_cases d : n = r
    · subst d
      rw [fp_wl_r, ← fp_sA hT hs n (Nat.le_refl _) (by omega)]
      refine (fp_su_4 (g := fun k => fp_bn T s n t k n) (c := fun d => if d = e then 1 else 0) (fun d q hd hq => ?_)).trans ?_
      · show (if fp_dj (d * 4 ^ n + q) n = e then (1 : Int) else 0) * fp_bn T s n t (d * 4 ^ n + q) (n + 1) = _
        rw [fp_bn_r, fp_dj_t hq hd (by omega), fp_bn_e n (fun j hj => fp_dj_l hj (by omega))]
        exact Int.mul_comm _ _
      · show fp_su (fun k => fp_bn T s n t k n) (4 ^ n) * ((if 0 = e then (1 : Int) else 0) + (if 1 = e then 1 else 0) + (if 2 = e then 1 else 0) + (if 3 = e then 1 else 0)) = _
        rw [show ((if 0 = e then (1 : Int) else 0) + (if 1 = e then 1 else 0) + (if 2 = e then 1 else 0) + (if 3 = e then 1 else 0)) = 1 by rcases (show e = 0 ∨ e = 1 ∨ e = 2 ∨ e = 3 by omega) with rfl | rfl | rfl | rfl <;> rfl]
        exact Int.mul_one _
    · rw [fp_wl_s d, ← ih (by omega) (by omega), ← fp_b1_q (hs n (by omega)) (hT n (by omega))]
      exact fp_su_4 (g := fun k => (if fp_dj k r = e then 1 else 0) * fp_bn T s r t k n) (c := fun d => fp_b1 (if n < r then t + 1 else t) (fp_pt (T n) (s n) d)) (fun d q hd hq => by
        show (if fp_dj (d * 4 ^ n + q) r = e then (1 : Int) else 0) * fp_bn T s r t (d * 4 ^ n + q) (n + 1) = _
        rw [fp_bn_s d, fp_dj_t hq hd (by omega), fp_bn_e n (fun j hj => fp_dj_l hj (by omega)), fp_dj_l (by omega) (by omega)]
        exact (Int.mul_assoc _ _ _).symm)
/-- who is first in the race of a number -/
def fp_fi (T s : Nat → Int) (n : Int) (k : Nat) : Int := fp_od (fun j => fp_pt (T j) (s j) (fp_dj k j)) n 0
theorem fp_bn_c {T s : Nat → Int} {r k : Nat} : ∀ m : Nat, (am_cnt (fun j => fp_pt (T j) (s j) (fp_dj k j)) r m = 0 ∧ fp_bn T s r (fp_pt (T r) (s r) (fp_dj k r)) k m = 1) ∨ (1 ≤ am_cnt (fun j => fp_pt (T j) (s j) (fp_dj k j)) r m ∧ fp_bn T s r (fp_pt (T r) (s r) (fp_dj k r)) k m = 0) := by
  intro m
  induction m with
  | zero => exact Or.inl ⟨rfl, rfl⟩
  | succ m ih =>
    simp only [am_cnt, fp_bn]
    by_cases d : m = r
    · subst d
      rw [if_neg (by omega), if_pos rfl, Int.add_zero]
      exact ih
    · rw [if_neg d]
      unfold fp_b1
      by_cases c : fp_pt (T m) (s m) (fp_dj k m) < fp_pt (T r) (s r) (fp_dj k r) ∨ (fp_pt (T m) (s m) (fp_dj k m) = fp_pt (T r) (s r) (fp_dj k r) ∧ m < r)
      · rw [if_pos c, if_neg (by split <;> omega), Int.mul_zero]
        refine Or.inr ⟨?_, rfl⟩
        rcases ih with ⟨q, -⟩ | ⟨q, -⟩ <;> omega
      · rw [if_neg c, if_pos (by split <;> omega), Int.mul_one, Int.add_zero]
        exact ih
theorem fp_fi_in {T s : Nat → Int} {r k n : Nat} (hr : r < n) (hn : n ≤ 4) : (if fp_fi T s (n : Int) k = (r : Int) then (1 : Int) else 0) = fp_bn T s r (fp_pt (T r) (s r) (fp_dj k r)) k n := by
  rcases fp_bn_c (T := T) (s := s) (r := r) (k := k) n with ⟨h1, h2⟩ | ⟨h1, h2⟩
  · rw [h2, if_pos]
    exact fp_od_i (by omega) (by omega) (by rw [Int.toNat_natCast]; exact h1)
  · rw [h2, if_neg]
    intro z
    obtain ⟨i, hi, hc⟩ := am_cnt_s (fun j => fp_pt (T j) (s j) (fp_dj k j)) (m := n) hn 0 (by omega)
    have y : fp_fi T s (n : Int) k = (i : Int) := fp_od_i (by omega) (by omega) (by rw [Int.toNat_natCast]; exact hc)
    rw [y] at z
    have z : i = r := by omega
    subst z
    rw [hc] at h1
    exact absurd h1 (by decide)
/-- the count over all races is the product -/
theorem fp_lk {T s : Nat → Int} {r n : Nat} (hT : ∀ j : Nat, j < 4 → 1 ≤ T j) (hs : ∀ j : Nat, j < 4 → 0 ≤ s j) (hr : r < n) (hn : n ≤ 4) : fp_su (fun k => if fp_fi T s (n : Int) k = (r : Int) then 1 else 0) (4 ^ n) = fp_wy (fun q => fp_pt (T q) (s q) 0) T (fun q => T q + s q) n r := by
  have e : ∀ k : Nat, (if fp_fi T s (n : Int) k = (r : Int) then (1 : Int) else 0) = (((if fp_dj k r = 0 then 1 else 0) * fp_bn T s r (fp_pt (T r) (s r) 0) k n + (if fp_dj k r = 1 then 1 else 0) * fp_bn T s r (T r) k n) + (if fp_dj k r = 2 then 1 else 0) * fp_bn T s r (T r) k n) + (if fp_dj k r = 3 then 1 else 0) * fp_bn T s r (T r + s r) k n := fun k => by
    rw [fp_fi_in hr hn]
    have h4 := fp_dj_4 k r
    generalize fp_dj k r = d at h4 ⊢
    rcases (show d = 0 ∨ d = 1 ∨ d = 2 ∨ d = 3 by omega) with rfl | rfl | rfl | rfl
    · show _ = ((1 * _ + 0 * _) + 0 * _) + 0 * _; omega
    · show fp_bn T s r (T r) k n = ((0 * _ + 1 * _) + 0 * _) + 0 * _; omega
    · show fp_bn T s r (T r) k n = ((0 * _ + 0 * _) + 1 * _) + 0 * _; omega
    · show fp_bn T s r (T r + s r) k n = ((0 * _ + 0 * _) + 0 * _) + 1 * _; omega
  rw [fp_su_e _ (fun k _ => e k), fp_su_p, fp_su_p, fp_su_p, fp_sB hT hs (by decide) n hr hn, fp_sB hT hs (by decide) n hr hn, fp_sB hT hs (by decide) n hr hn, fp_sB hT hs (by decide) n hr hn]
  show _ = fp_wl T s r (fp_pt (T r) (s r) 0) n + 2 * fp_wl T s r (T r) n + fp_wl T s r (T r + s r) n
  omega
theorem fp_wa_e {L M H L' M' H' : Nat → Int} {i : Nat} {t : Int} : ∀ n : Nat, (∀ j : Nat, j < n → L j = L' j ∧ M j = M' j ∧ H j = H' j) → fp_wa L M H i t n = fp_wa L' M' H' i t n := by
  intro n
  induction n with
  | zero => intro _; rfl
  | succ n ih =>
    intro h
    simp only [fp_wa]
    obtain ⟨h1, h2, h3⟩ := h n (by omega)
    rw [ih (fun j hj => h j (by omega)), h1, h2, h3]
theorem fp_wy_e {L M H L' M' H' : Nat → Int} {n i : Nat} (hi : i < n) (h : ∀ j : Nat, j < n → L j = L' j ∧ M j = M' j ∧ H j = H' j) : fp_wy L M H n i = fp_wy L' M' H' n i := by
  obtain ⟨h1, h2, h3⟩ := h i hi
  unfold fp_wy
  rw [fp_wa_e n h, fp_wa_e n h, fp_wa_e n h, h1, h2, h3]
theorem fp_wa_b (L M H : Nat → Int) (i : Nat) (t : Int) : ∀ n : Nat, 0 ≤ fp_wa L M H i t n ∧ fp_wa L M H i t n ≤ (4 ^ n : Nat) := by
  intro n
  induction n with
  | zero => exact ⟨(by first | exact Int.le_refl 0 | (show (0 : Int) ≤ 1; decide) | (show (0 : Int) ≤ _; decide) | (show _ ≤ (0 : Int); decide) | (show (1 : Int) ≤ _; decide) | (show (0 : Int) < _; decide)), (by first | exact Int.le_refl 0 | (show (0 : Int) ≤ 1; decide) | (show (0 : Int) ≤ _; decide) | (show _ ≤ (0 : Int); decide) | (show (1 : Int) ≤ _; decide) | (show (0 : Int) < _; decide))⟩
  | succ n ih =>
    simp only [fp_wa]
    have e : (((4 ^ (n + 1) : Nat)) : Int) = (4 ^ n : Nat) * 4 := by rw [Nat.pow_succ]; omega
    split
    · rw [e]; omega
    · have q := fp_qu_b (L n) (M n) (H n) (if n < i then t + 1 else t)
      rw [e]
      exact am_mulb ih.1 ih.2 q.1 q.2
theorem fp_wa_b4 (L M H : Nat → Int) (i : Nat) (t : Int) {n : Nat} (hn : n ≤ 4) : 0 ≤ fp_wa L M H i t n ∧ fp_wa L M H i t n ≤ 256 := by
  have h := fp_wa_b L M H i t n
  refine ⟨h.1, Int.le_trans h.2 ?_⟩
  rcases (show n = 0 ∨ n = 1 ∨ n = 2 ∨ n = 3 ∨ n = 4 by omega) with rfl | rfl | rfl | rfl | rfl <;> decide
/-- in how many of all races one is first -/
def fp_lw (F : am_N) (r : Nat) : Int := fp_wy (fun q => fp_pt (fp_tf F q) (F 4 q) 0) (fp_tf F) (fun q => fp_tf F q + F 4 q) (F 0 4).toNat r
theorem fp_lw_b {F : am_N} (h4 : F 0 4 ≤ 4) (r : Nat) : 0 ≤ fp_lw F r ∧ fp_lw F r ≤ 1024 := by
  have q := fun t => fp_wa_b4 (fun q => fp_pt (fp_tf F q) (F 4 q) 0) (fp_tf F) (fun q => fp_tf F q + F 4 q) r t (n := (F 0 4).toNat) (by omega)
  unfold fp_lw fp_wy
  have a := q (fp_pt (fp_tf F r) (F 4 r) 0)
  have b := q (fp_tf F r)
  have c := q (fp_tf F r + F 4 r)
  simp only
  omega
/-- of all races -/
def fp_al2 (F : am_N) : Int := am_shl 1 (2 * F 0 4)
theorem fp_al2_n {n : Int} (h0 : 0 ≤ n) (h1 : n ≤ 4) : am_shl 1 (2 * n) = ((4 ^ n.toNat : Nat) : Int) := by
  rcases (show n = 0 ∨ n = 1 ∨ n = 2 ∨ n = 3 ∨ n = 4 by omega) with rfl | rfl | rfl | rfl | rfl <;> decide +kernel
theorem fp_al2_b {n : Int} (h0 : 0 ≤ n) (h1 : n ≤ 4) : 1 ≤ am_shl 1 (2 * n) ∧ am_shl 1 (2 * n) ≤ 256 := by
  rw [fp_al2_n h0 h1]
  rcases (show n = 0 ∨ n = 1 ∨ n = 2 ∨ n = 3 ∨ n = 4 by omega) with rfl | rfl | rfl | rfl | rfl <;> decide
theorem fp_djF : ∀ (k : Fin 256) (r : Fin 4), am_and (am_shr ((k : Nat) : Int) (2 * ((r : Nat) : Int))) 3 = ((fp_dj (k : Nat) (r : Nat) : Nat) : Int) := by decide +kernel
theorem fp_djm {k r : Int} (k0 : 0 ≤ k) (k1 : k < 256) (r0 : 0 ≤ r) (r1 : r < 4) : am_and (am_shr k (2 * r)) 3 = ((fp_dj k.toNat r.toNat : Nat) : Int) := by
  have h := fp_djF ⟨k.toNat, by omega⟩ ⟨r.toNat, by omega⟩
  simp only [Int.toNat_of_nonneg k0, Int.toNat_of_nonneg r0] at h
  exact h
theorem fp_fi_b (T s : Nat → Int) (n : Int) (k : Nat) : 0 ≤ fp_fi T s n k ∧ fp_fi T s n k ≤ 3 := fp_od_b _ _ _
theorem fp_su_b {f : Nat → Int} (h : ∀ k : Nat, 0 ≤ f k ∧ f k ≤ 1) : ∀ N : Nat, 0 ≤ fp_su f N ∧ fp_su f N ≤ (N : Int) := by
  intro N
  induction N with
  | zero => exact ⟨(by first | exact Int.le_refl 0 | (show (0 : Int) ≤ 1; decide) | (show (0 : Int) ≤ _; decide) | (show _ ≤ (0 : Int); decide) | (show (1 : Int) ≤ _; decide) | (show (0 : Int) < _; decide)), (by first | exact Int.le_refl 0 | (show (0 : Int) ≤ 1; decide) | (show (0 : Int) ≤ _; decide) | (show _ ≤ (0 : Int); decide) | (show (1 : Int) ≤ _; decide) | (show (0 : Int) < _; decide))⟩
  | succ N ih =>
    have q := h N
    show 0 ≤ fp_su f N + f N ∧ fp_su f N + f N ≤ _
    omega
theorem n_races {l : Launch} {ν : am_N} {Q : Option am_V → am_N → Prop} (k : Q (some (.inl (am_shl 1 (2 * ν 83 14)))) ν) : am_Does l 169 [.inr (.inr 83)] ν Q := by
  refine am_Does_of (Nat.le_of_ble_eq_true rfl) (Nat.le_of_ble_eq_true rfl) (Nat.le_of_ble_eq_true rfl) ?_
  refine am_go (ct := fun _ => false) am_oX7_races 300 ?_
  conv => whnf
  repeat' first
    | (refine (?_ : am_wp _ _ _ _ _ _ _ _ _ _ _ _); conv => whnf)
    | (refine (?_ : am_sw _ _ _ _); conv => whnf)
    | refine And.intro trivial ?_
    | exact trivial
    | exact k
    | refine And.intro (fun h => absurd h (by decide)) (fun _ => ?_)
    | refine And.intro (fun _ => ?_) (fun h => absurd (by decide) h)
    | refine And.intro (fun _ => ?_) (fun _ => ?_)
    | refine And.intro ?_ ?_
  all_goals (first | decide | (trace_state; fail))
theorem x_partTime {l : Launch} {ν : am_N} {Q : Option am_V → am_N → Prop} (r p : Int) (hf : am_fM ν) (r0 : 0 ≤ r) (r1 : r < ν 83 14) (sp : 0 ≤ ν 88 r.toNat ∧ ν 88 r.toNat ≤ 20) (p0 : 0 ≤ p) (p1 : p < 4) (k : ∀ v : Int, v = fp_pt (am_TM ν r.toNat) (ν 88 r.toNat) (p.toNat) → 1 ≤ v → v ≤ 100020 → Q (some (.inl v)) ν) : am_Does l 167 [.inr (.inr 83), .inl r, .inl p] ν Q := by
  refine am_Does_of (Nat.le_of_ble_eq_true rfl) (Nat.le_of_ble_eq_true rfl) (Nat.le_of_ble_eq_true rfl) ?_
  have l0 : am_c 0 = 0 := rfl
  have l1 : am_c 1 = 1 := rfl
  have l2 : am_c 2 = 2 := rfl
  have l3 : am_c 3 = 3 := rfl
  have l4 : am_c 4 = 4 := rfl
  have l20 : am_c 20 = 20 := rfl
  have l200 : am_c 200 = 200 := rfl
  have n4 := hf.1
  have cr : am_c r = r := am_cR (by omega) (by omega)
  have cp : am_c p = p := am_cR (by omega) (by omega)
  have z := am_TM_b (i := r.toNat) hf (by omega)
  have hb := fp_pt_b (t := am_TM ν r.toNat) (s := ν 88 r.toNat) (q := p.toNat) z.1 (by omega) sp.1 sp.2
  have kk := fun (x : Int) (e : x = fp_pt (am_TM ν r.toNat) (ν 88 r.toNat) (p.toNat)) => am_qe (k _ rfl hb.1 hb.2) e
  refine am_go (ct := fun _ => false) am_oX7_partTime 300 ?_
  conv => whnf
  repeat' first
    | (refine (?_ : am_wp _ _ _ _ _ _ _ _ _ _ _ _); conv => whnf)
    | (refine (?_ : am_sw _ _ _ _); conv => whnf)
    | refine And.intro trivial ?_
    | exact trivial
    | refine x_timeOf _ r0 r1 hf ?_
    | refine x_atLeastOne _ ?_ ?_ ?_
    | refine kk _ ?_
    | refine And.intro (fun h => absurd h (by decide)) (fun _ => ?_)
    | refine And.intro (fun _ => ?_) (fun h => absurd (by decide) h)
    | refine And.intro (fun _ => ?_) (fun _ => ?_)
    | refine And.intro ?_ ?_
  all_goals (first | decide | omega | (rw [cr]; omega) | (simp only [cr]; omega) | (simp only [cr]; unfold fp_pt; first | (rw [if_pos (by simp only [cp, l0, l3] at *; omega)]) | (rw [if_neg (by simp only [cp, l0, l3] at *; omega), if_pos (by simp only [cp, l0, l3] at *; omega)]) | (rw [if_neg (by simp only [cp, l0, l3] at *; omega), if_neg (by simp only [cp, l0, l3] at *; omega)])) | (trace_state; fail))
theorem x_takesParts {l : Launch} {ν : am_N} {Q : Option am_V → am_N → Prop} (g : Int) (hf : am_fM ν) (hs : ∀ q : Nat, (q : Int) < ν 83 14 → 0 ≤ ν 88 q ∧ ν 88 q ≤ 20) (g0 : 0 ≤ g) (g1 : g < 256) (k : ∀ μ' : am_N, (∀ a b, a ≠ 99 → a ≠ 100 → μ' a b = ν a b) → am_isord μ' 100 (fun q : Nat => fp_pt (am_TM ν q) (ν 88 q) (fp_dj g.toNat q)) (ν 83 14) → (∀ i : Nat, (i : Int) < ν 83 14 → μ' 99 i = fp_pt (am_TM ν i) (ν 88 i) (fp_dj g.toNat i)) → (sx_3 ν 100 → sx_3 μ' 100) → Q none μ') : am_Does l 168 [.inr (.inr 83), .inl g] ν Q := by
  refine am_Does_of (Nat.le_of_ble_eq_true rfl) (Nat.le_of_ble_eq_true rfl) (Nat.le_of_ble_eq_true rfl) ?_
  have hn := hf.1
  have hq := @am_TM_b ν
  have lp2 : ∀ (m : Nat) (i : Int) (μ : am_N) , (∀ a b, a ≠ 99 → a ≠ 100 → μ a b = ν a b) → 0 ≤ i → i ≤ ν 83 14 → (∀ q : Nat, (q : Int) < i → μ 99 q = fp_pt (am_TM ν q) (ν 88 q) (fp_dj g.toNat q)) → (sx_3 ν 100 → sx_3 μ 100) → ν 83 14 - i < (m : Int) → am_AW l 0 (fun _ => 0) 168 Q 2 [some (.inr (.inr 83)), some (.inl g), some (.inl i)] [] μ := by
    intro m
    induction m with
    | zero =>
      intro i μ hv0 hv1 hv2 hv3 hv4 hm
      exfalso
      omega
    | succ m ih =>
      intro i μ hv0 hv1 hv2 hv3 hv4 hm
      have ci : am_c i = i := am_cR (by omega) (by omega)
      have cn : am_c (ν 83 14) = ν 83 14 := am_cR (by omega) (by omega)
      obtain ⟨h1, h2⟩ := am_fM_e hv0
      have h3 := h1 hf
      have e4 : μ 83 14 = ν 83 14 := hv0 83 14 (by decide) (by decide)
      have e88 : ∀ q, μ 88 q = ν 88 q := fun q => hv0 88 q (by decide) (by decide)
      have dj := fun q : i < 4 => fp_djm g0 g1 hv1 q
      have d4 := fp_dj_4 g.toNat i.toNat
      refine am_go (ct := fun pc => Nat.beq pc 2) am_oX7_takesParts 300 ?_
      conv => whnf
      repeat' first
        | (refine (?_ : am_wp _ _ _ _ _ _ _ _ _ _ _ _); conv => whnf)
        | (refine (?_ : am_sw _ _ _ _); conv => whnf)
        | refine And.intro trivial ?_
        | exact trivial
        | (have hi : i < ν 83 14 := (by simp only [ci, cn, e4] at *; omega); rw [dj (by omega)]; refine x_partTime _ _ h3 hv1 (by rw [e4]; exact hi) (by rw [e88]; exact hs i.toNat (by omega)) (by omega) (by omega) (fun v ev v0 v1 => ?_); rw [h2, e88, Int.toNat_natCast] at ev)
        | refine x_sorts ?_ ?_ ?_ (fun μ2 y1 y2 y3 => ?_)
        | refine k _ ?_ ?_ ?_ ?_
        | refine ih _ _ ?_ ?_ ?_ ?_ ?_ ?_
        | refine And.intro (fun h => absurd h (by decide)) (fun _ => ?_)
        | refine And.intro (fun _ => ?_) (fun h => absurd (by decide) h)
        | refine And.intro (fun _ => ?_) (fun _ => ?_)
        | refine And.intro ?_ ?_
      all_goals (first | decide | assumption | omega | rfl | exact fun z => y3 (hv4 z) | exact fun z => sx_3N (hv4 z) (by decide) | (rw [ci]; omega) | (simp only [ci, cn, e4] at *; omega) | (intro a b h1 h2; rw [am_upN h1]; exact hv0 a b h1 h2) | (intro q hq; by_cases d : (q : Int) = i; (rw [am_upS, if_pos ⟨rfl, by rw [ci]; omega⟩, show q = i.toNat by omega]; exact ev); (rw [am_upM (by rw [ci]; omega)]; exact hv3 q (by omega))) | (have ie : i = ν 83 14 := (by simp only [ci, cn, e4] at *; omega); first | (intro j hj; rw [e4] at hj; rw [hv3 j (by omega)]; have zz := @hq j hf (by omega); have yy := hs j (by omega); have xx := fp_pt_b (t := am_TM ν j) (s := ν 88 j) (q := fp_dj g.toNat j) zz.1 (by omega) yy.1 yy.2; omega) | (intro a b h1 h2; rw [y1 a b h2]; exact hv0 a b h1 h2) | (rw [e4] at y2; exact am_isord_t (fun j hj => hv3 j (by omega)) y2) | (intro j hj; rw [y1 _ _ (by decide)]; exact hv3 j (by omega))) | (trace_state; fail))
  have lp2' : ∀ (i : Int) (μ : am_N) , (∀ a b, a ≠ 99 → a ≠ 100 → μ a b = ν a b) → 0 ≤ i → i ≤ ν 83 14 → (∀ q : Nat, (q : Int) < i → μ 99 q = fp_pt (am_TM ν q) (ν 88 q) (fp_dj g.toNat q)) → (sx_3 ν 100 → sx_3 μ 100) → am_AW l 0 (fun _ => 0) 168 Q 2 [some (.inr (.inr 83)), some (.inl g), some (.inl i)] [] μ := fun i μ hv0 hv1 hv2 hv3 hv4 => lp2 ((ν 83 14 - i) + 1).toNat i μ hv0 hv1 hv2 hv3 hv4 (by omega)
  refine am_go (ct := fun pc => Nat.beq pc 2) am_oX7_takesParts 300 ?_
  conv => whnf
  repeat' first
    | (refine (?_ : am_wp _ _ _ _ _ _ _ _ _ _ _ _); conv => whnf)
    | (refine (?_ : am_sw _ _ _ _); conv => whnf)
    | refine And.intro trivial ?_
    | exact trivial
    | refine lp2' _ _ ?_ ?_ ?_ ?_ ?_
    | refine And.intro (fun h => absurd h (by decide)) (fun _ => ?_)
    | refine And.intro (fun _ => ?_) (fun h => absurd (by decide) h)
    | refine And.intro (fun _ => ?_) (fun _ => ?_)
    | refine And.intro ?_ ?_
  all_goals (first | decide | assumption | omega | rfl | exact fun z => z | exact fun _ _ _ _ => rfl | (intros; omega) | (trace_state; fail))
theorem x_findFirsts {l : Launch} {ν : am_N} {Q : Option am_V → am_N → Prop} (hf : am_fM ν) (hs : ∀ q : Nat, (q : Int) < ν 83 14 → 0 ≤ ν 88 q ∧ ν 88 q ≤ 20) (hp : sx_3 ν 100) (k : ∀ μ' : am_N, (∀ a b, a ≠ 99 → a ≠ 100 → a ≠ 104 → μ' a b = ν a b) → (1 ≤ ν 83 14 → ∀ r : Nat, r < 4 → μ' 104 r = fp_su (fun q => if fp_fi (am_TM ν) (ν 88) (ν 83 14) q = ((r : Nat) : Int) then 1 else 0) (4 ^ (ν 83 14).toNat)) → sx_3 μ' 100 → Q none μ') : am_Does l 182 [.inr (.inr 83)] ν Q := by
  refine am_Does_of (Nat.le_of_ble_eq_true rfl) (Nat.le_of_ble_eq_true rfl) (Nat.le_of_ble_eq_true rfl) ?_
  have l0 : am_c 0 = 0 := rfl
  have l1 : am_c 1 = 1 := rfl
  have l2 : am_c 2 = 2 := rfl
  have l3 : am_c 3 = 3 := rfl
  have l4 : am_c 4 = 4 := rfl
  have l20 : am_c 20 = 20 := rfl
  have l200 : am_c 200 = 200 := rfl
  have hn := hf.1
  have al := fp_al2_b hn.1 hn.2
  have cA : am_c (am_shl 1 (2 * ν 83 14)) = am_shl 1 (2 * ν 83 14) := am_cR (by omega) (by omega)
  have eA := fp_al2_n hn.1 hn.2
  have cn : am_c (ν 83 14) = ν 83 14 := am_cR (by omega) (by omega)
  have lp22 : ∀ (m : Nat) (i : Int) (μ : am_N) , (∀ a b, a ≠ 99 → a ≠ 100 → a ≠ 104 → μ a b = ν a b) → 0 ≤ i → i ≤ am_shl 1 (2 * ν 83 14) → (∀ r : Nat, r < 4 → μ 104 r = fp_su (fun q => if fp_fi (am_TM ν) (ν 88) (ν 83 14) q = ((r : Nat) : Int) then 1 else 0) (i.toNat)) → sx_3 μ 100 → am_shl 1 (2 * ν 83 14) - i < (m : Int) → am_AW l 0 (fun _ => 0) 182 Q 22 [some (.inr (.inr 83)), some (.inl i)] [] μ := by
    intro m
    induction m with
    | zero =>
      intro i μ hv0 hv1 hv2 hv3 hv4 hm
      exfalso
      omega
    | succ m ih =>
      intro i μ hv0 hv1 hv2 hv3 hv4 hm
      have ci : am_c i = i := am_cR (by omega) (by omega)
      have e4 : μ 83 14 = ν 83 14 := hv0 83 14 (by decide) (by decide) (by decide)
      have e88 : μ 88 = ν 88 := funext (fun q => hv0 88 q (by decide) (by decide) (by decide))
      have eT : am_TM μ = am_TM ν := funext (fun q => by unfold am_TM; rw [hv0 83 10 (by decide) (by decide) (by decide), hv0 83 11 (by decide) (by decide) (by decide), hv0 87 q (by decide) (by decide) (by decide), hv0 86 q (by decide) (by decide) (by decide), hv0 85 q (by decide) (by decide) (by decide), hv0 89 q (by decide) (by decide) (by decide)])
      have h3 : am_fM μ := by unfold am_fM at hf ⊢; rw [e4, hv0 83 10 (by decide) (by decide) (by decide), hv0 83 11 (by decide) (by decide) (by decide)]; refine ⟨hf.1, hf.2.1, fun q hq => ?_⟩; rw [hv0 87 q (by decide) (by decide) (by decide), hv0 86 q (by decide) (by decide) (by decide), hv0 85 q (by decide) (by decide) (by decide), hv0 89 q (by decide) (by decide) (by decide)]; exact hf.2.2 q hq
      have fb := fp_fi_b (am_TM ν) (ν 88) (ν 83 14) i.toNat
      refine am_go (ct := fun pc => Nat.beq pc 22 || Nat.beq pc 2) am_oX7_findFirsts 300 ?_
      conv => whnf
      repeat' first
        | (refine (?_ : am_wp _ _ _ _ _ _ _ _ _ _ _ _); conv => whnf)
        | (refine (?_ : am_sw _ _ _ _); conv => whnf)
        | refine And.intro trivial ?_
        | exact trivial
        | refine n_races ?_
        | (have hi : i < am_shl 1 (2 * ν 83 14) := (by rw [e4] at *; rw [cA, ci] at *; omega); have n1 : 1 ≤ ν 83 14 := (by simp only [e4, cn, l0] at *; omega); refine x_takesParts _ h3 (fun q hq => by rw [e88]; exact hs q (by rw [e4] at hq; exact hq)) hv1 (by omega) (fun μ2 y1 y2 y3 y4 => ?_); have w0 : μ2 100 (am_c 0).toNat = fp_fi (am_TM ν) (ν 88) (ν 83 14) i.toNat := (by rw [show (am_c 0).toNat = 0 from rfl, fp_od_o (by rw [e4]; omega) y2 0 (by rw [e4]; omega), e4, eT, e88]; rfl))
        | refine k _ hv0 ?_ hv4
        | refine ih _ _ ?_ ?_ ?_ ?_ ?_ ?_
        | refine And.intro (fun h => absurd h (by decide)) (fun _ => ?_)
        | refine And.intro (fun _ => ?_) (fun h => absurd (by decide) h)
        | refine And.intro (fun _ => ?_) (fun _ => ?_)
        | refine And.intro ?_ ?_
      all_goals (first | decide | omega | (rw [w0]; rw [am_cR (by omega) (by omega)]; omega) | (intro a b q1 q2 q3; rw [am_upN q3, y1 a b q1 q2]; exact hv0 a b q1 q2 q3) | (exact sx_3N (y4 hv4) (by decide)) | (intro r hr; rw [show (i + 1).toNat = i.toNat + 1 by omega]; show _ = fp_su (fun q => if fp_fi (am_TM ν) (ν 88) (ν 83 14) q = ((r : Nat) : Int) then 1 else 0) (i.toNat) + (if fp_fi (am_TM ν) (ν 88) (ν 83 14) i.toNat = (r : Int) then 1 else 0); rw [w0, am_cR (z := fp_fi (am_TM ν) (ν 88) (ν 83 14) i.toNat) (by omega) (by omega)]; by_cases d : fp_fi (am_TM ν) (ν 88) (ν 83 14) i.toNat = (r : Int); (rw [am_upS, if_pos ⟨rfl, by omega⟩, if_pos d, y1 _ _ (by decide) (by decide), show (fp_fi (am_TM ν) (ν 88) (ν 83 14) i.toNat).toNat = r by omega, hv3 r hr]); (rw [am_upM (by omega), if_neg d, y1 _ _ (by decide) (by decide), hv3 r hr, Int.add_zero])) | (intro n1 r hr; rw [hv3 r hr, show i.toNat = 4 ^ (ν 83 14).toNat by simp only [e4, cn, l0, ci, cA] at *; omega]) | (trace_state; fail))
  have lp22' : ∀ (i : Int) (μ : am_N) , (∀ a b, a ≠ 99 → a ≠ 100 → a ≠ 104 → μ a b = ν a b) → 0 ≤ i → i ≤ am_shl 1 (2 * ν 83 14) → (∀ r : Nat, r < 4 → μ 104 r = fp_su (fun q => if fp_fi (am_TM ν) (ν 88) (ν 83 14) q = ((r : Nat) : Int) then 1 else 0) (i.toNat)) → sx_3 μ 100 → am_AW l 0 (fun _ => 0) 182 Q 22 [some (.inr (.inr 83)), some (.inl i)] [] μ := fun i μ hv0 hv1 hv2 hv3 hv4 => lp22 ((am_shl 1 (2 * ν 83 14) - i) + 1).toNat i μ hv0 hv1 hv2 hv3 hv4 (by omega)
  have lp2 : ∀ (m : Nat) (i : Int) (μ : am_N) , (∀ a b, a ≠ 99 → a ≠ 100 → a ≠ 104 → μ a b = ν a b) → 0 ≤ i → i ≤ 4 → (∀ r : Nat, (r : Int) < i → μ 104 r = 0) → sx_3 μ 100 → 4 - i < (m : Int) → am_AW l 0 (fun _ => 0) 182 Q 2 [some (.inr (.inr 83)), some (.inl i)] [] μ := by
    intro m
    induction m with
    | zero =>
      intro i μ hv0 hv1 hv2 hv3 hv4 hm
      exfalso
      omega
    | succ m ih =>
      intro i μ hv0 hv1 hv2 hv3 hv4 hm
      have ci : am_c i = i := am_cR (by omega) (by omega)
      refine am_go (ct := fun pc => Nat.beq pc 22 || Nat.beq pc 2) am_oX7_findFirsts 300 ?_
      conv => whnf
      repeat' first
        | (refine (?_ : am_wp _ _ _ _ _ _ _ _ _ _ _ _); conv => whnf)
        | (refine (?_ : am_sw _ _ _ _); conv => whnf)
        | refine And.intro trivial ?_
        | exact trivial
        | refine lp22' 0 _ ?_ ?_ ?_ ?_ ?_
        | refine ih _ _ ?_ ?_ ?_ ?_ ?_ ?_
        | refine lp22' _ _ ?_ ?_ ?_ ?_ ?_
        | refine And.intro (fun h => absurd h (by decide)) (fun _ => ?_)
        | refine And.intro (fun _ => ?_) (fun h => absurd (by decide) h)
        | refine And.intro (fun _ => ?_) (fun _ => ?_)
        | refine And.intro ?_ ?_
      all_goals (first | decide | assumption | omega | (rw [ci, l4] at *; omega) | (rw [ci]; omega) | (intro a b q1 q2 q3; rw [am_upN q3]; exact hv0 a b q1 q2 q3) | exact sx_3N hv4 (by decide) | (intro r hr; by_cases d : (r : Int) = i; (rw [am_upS, if_pos ⟨rfl, by rw [ci]; omega⟩]); (rw [am_upM (by rw [ci]; omega)]; exact hv3 r (by omega))) | (intro r hr; rw [hv3 r (by rw [ci, l4] at *; omega)]; rfl) | (trace_state; fail))
  have lp2' : ∀ (i : Int) (μ : am_N) , (∀ a b, a ≠ 99 → a ≠ 100 → a ≠ 104 → μ a b = ν a b) → 0 ≤ i → i ≤ 4 → (∀ r : Nat, (r : Int) < i → μ 104 r = 0) → sx_3 μ 100 → am_AW l 0 (fun _ => 0) 182 Q 2 [some (.inr (.inr 83)), some (.inl i)] [] μ := fun i μ hv0 hv1 hv2 hv3 hv4 => lp2 ((4 - i) + 1).toNat i μ hv0 hv1 hv2 hv3 hv4 (by omega)
  refine am_go (ct := fun pc => Nat.beq pc 22 || Nat.beq pc 2) am_oX7_findFirsts 300 ?_
  conv => whnf
  repeat' first
    | (refine (?_ : am_wp _ _ _ _ _ _ _ _ _ _ _ _); conv => whnf)
    | (refine (?_ : am_sw _ _ _ _); conv => whnf)
    | refine And.intro trivial ?_
    | exact trivial
    | refine lp2' _ _ ?_ ?_ ?_ ?_ ?_
    | refine lp22' _ _ ?_ ?_ ?_ ?_ ?_
    | refine And.intro (fun h => absurd h (by decide)) (fun _ => ?_)
    | refine And.intro (fun _ => ?_) (fun h => absurd (by decide) h)
    | refine And.intro (fun _ => ?_) (fun _ => ?_)
    | refine And.intro ?_ ?_
  all_goals (first | decide | assumption | omega | rfl | (intros; rfl) | (intros; omega) | (trace_state; fail))
/-- firsts of a picture -/
theorem fp_lw_M {μ : am_N} {r : Nat} (hw : fp_fw 999 (mv μ)) (hr : (r : Int) < μ 83 14) : fp_su (fun q => if fp_fi (am_TM μ) (μ 88) (μ 83 14) q = (r : Int) then 1 else 0) (4 ^ (μ 83 14).toNat) = fp_lw (mv μ) r := by
  obtain ⟨hf, -, -, -, -, -, hx⟩ := fw_M hw (by decide)
  have n4 := hf.1
  have hz : ∃ n : Nat, μ 83 14 = (n : Int) := ⟨(μ 83 14).toNat, (Int.toNat_of_nonneg n4.1).symm⟩
  obtain ⟨n, hn⟩ := hz
  have e : ∀ k, fp_fi (am_TM μ) (μ 88) (n : Int) k = fp_fi (fun j => if j < n then am_TM μ j else 1) (fun j => if j < n then μ 88 j else 0) (n : Int) k := fun k => by
    have c : ∀ i : Nat, i < n → ∀ m : Nat, m ≤ n → am_cnt (fun j => fp_pt (am_TM μ j) (μ 88 j) (fp_dj k j)) i m = am_cnt (fun j => fp_pt (if j < n then am_TM μ j else 1) (if j < n then μ 88 j else 0) (fp_dj k j)) i m := fun i hi => am_cnt_t (n := n) hi (fun j hj => by show fp_pt _ _ _ = fp_pt _ _ _; rw [if_pos hj, if_pos hj])
    obtain ⟨i, hi, hc⟩ := am_cnt_s (fun j => fp_pt (am_TM μ j) (μ 88 j) (fp_dj k j)) (m := n) (by omega) 0 (by omega)
    have y1 : fp_fi (am_TM μ) (μ 88) (n : Int) k = (i : Int) := fp_od_i (by omega) (by omega) (by rw [Int.toNat_natCast]; exact hc)
    have y2 : fp_fi (fun j => if j < n then am_TM μ j else 1) (fun j => if j < n then μ 88 j else 0) (n : Int) k = (i : Int) := fp_od_i (by omega) (by omega) (by rw [Int.toNat_natCast, ← c i hi n (Nat.le_refl _)]; exact hc)
    rw [y1, y2]
  rw [hn, Int.toNat_natCast]
  rw [fp_su_e _ (fun k _ => by show (if fp_fi (am_TM μ) (μ 88) (n : Int) k = (r : Int) then (1 : Int) else 0) = _; rw [e k])]
  rw [fp_lk (fun j hj => by show 1 ≤ (if j < n then am_TM μ j else 1); split; exact (am_TM_b hf (by omega)).1; decide) (fun j hj => by show 0 ≤ (if j < n then μ 88 j else 0); split; exact (hx j (by omega)).2.2.2.1; decide) (by omega) (by omega)]
  unfold fp_lw
  rw [mv_n, hn, Int.toNat_natCast]
  refine fp_wy_e (by omega) (fun j hj => ?_)
  have t : am_TM μ j = fp_tf (mv μ) j := mv_T (by omega)
  have s : mv μ 4 j = μ 88 j := mv_a (a := 3) (by decide) (by omega)
  show fp_pt (if j < n then am_TM μ j else 1) (if j < n then μ 88 j else 0) 0 = _ ∧ (if j < n then am_TM μ j else 1) = _ ∧ (if j < n then am_TM μ j else 1) + (if j < n then μ 88 j else 0) = _
  rw [if_pos hj, if_pos hj, t, s]
  exact ⟨rfl, rfl, rfl⟩
theorem n_findFirsts {l : Launch} {ν : am_N} {Q : Option am_V → am_N → Prop} (hm : mi ν) (hw : fp_fw 999 (mv ν)) (k : ∀ μ' : am_N, gm ms ν μ' → (∀ a b, a ≠ 99 → a ≠ 100 → a ≠ 104 → μ' a b = ν a b) → (∀ r : Nat, (r : Int) < ν 83 14 → μ' 104 r = fp_lw (mv ν) r) → Q none μ') : am_Does l 182 [.inr (.inr 83)] ν Q := by
  obtain ⟨hf, -, -, -, -, -, hx⟩ := fw_M hw (by decide)
  refine x_findFirsts hf (fun q hq => (hx q hq).2.2.2) (fun p hp => mi_or hm p hp) (fun μ2 f2 v2 p2 => k μ2 ⟨mi_rc hm (fun a b q => f2 a b (by omega) (by omega) (by omega)) p2, fun a b ha => f2 a b (fun z => by rw [z] at ha; cases ha) (fun z => by rw [z] at ha; cases ha) (fun z => by rw [z] at ha; cases ha)⟩ f2 (fun r hr => ?_))
  have n4 := hf.1
  rw [v2 (by omega) r (by omega)]
  exact fp_lw_M hw hr
theorem fp_lw_C1 {ν μ : am_N} {i : Nat} (n4 : ν 1 4 ≤ 4) (hi : (i : Int) < ν 1 4) (d0 : μ 29 0 = ν 1 4) (dr : ∀ q : Nat, (q : Int) < ν 1 4 → μ 30 q = fp_pt (am_TC ν 1 q) (ν 5 q) 0 ∧ μ 31 q = am_TC ν 1 q ∧ μ 32 q = am_TC ν 1 q + ν 5 q) : fp_wy (μ 30) (μ 31) (μ 32) (μ 29 0).toNat i = fp_lw (fv ν 1) i := by
  unfold fp_lw
  rw [d0, fv_0 (by decide)]
  refine fp_wy_e (by omega) (fun j hj => ?_)
  obtain ⟨q0, q1, q2⟩ := dr j (by omega)
  have t : am_TC ν 1 j = fp_tf (fv ν 1) j := fv_T (by omega)
  have s : fv ν 1 4 j = ν 5 j := fv_a (by decide) (by decide) (by omega)
  rw [q0, q1, q2, t, s]
  exact ⟨rfl, rfl, rfl⟩
theorem x_draw_1 {l : Launch} {ν : am_N} {Q : Option am_V → am_N → Prop} (hf : am_fC ν 1) (hs : ∀ q : Nat, (q : Int) < ν 1 4 → 0 ≤ ν 5 q ∧ ν 5 q ≤ 20) (k : ∀ μ' : am_N, (∀ a b, ¬(30 ≤ a ∧ a ≤ 32) → ¬(a = 29 ∧ b = 0) → μ' a b = ν a b) → μ' 29 0 = ν 1 4 → (∀ q : Nat, (q : Int) < ν 1 4 → μ' 30 q = fp_pt (am_TC ν 1 q) (ν 5 q) 0 ∧ μ' 31 q = am_TC ν 1 q ∧ μ' 32 q = am_TC ν 1 q + ν 5 q) → Q none μ') : am_Does l 21 [.inr (.inr 29), .inr (.inr 1)] ν Q := by
  refine am_Does_of (Nat.le_of_ble_eq_true rfl) (Nat.le_of_ble_eq_true rfl) (Nat.le_of_ble_eq_true rfl) ?_
  have l0 : am_c 0 = 0 := rfl
  have l1 : am_c 1 = 1 := rfl
  have l2 : am_c 2 = 2 := rfl
  have l3 : am_c 3 = 3 := rfl
  have l4 : am_c 4 = 4 := rfl
  have l16 : am_c 16 = 16 := rfl
  have hn := hf.1
  have hq := @am_TC_b ν 1
  have lp10 : ∀ (m : Nat) (i : Int) (μ : am_N) , (∀ a b, ¬(30 ≤ a ∧ a ≤ 32) → ¬(a = 29 ∧ b = 0) → μ a b = ν a b) → μ 29 0 = ν 1 4 → 0 ≤ i → i ≤ ν 1 4 → (∀ q : Nat, (q : Int) < i → μ 30 q = fp_pt (am_TC ν 1 q) (ν 5 q) 0 ∧ μ 31 q = am_TC ν 1 q ∧ μ 32 q = am_TC ν 1 q + ν 5 q) → ν 1 4 - i < (m : Int) → am_AW l 0 (fun _ => 0) 21 Q 10 [some (.inr (.inr 29)), some (.inr (.inr 1)), some (.inl i)] [] μ := by
    intro m
    induction m with
    | zero =>
      intro i μ hv0 hv1 hv2 hv3 hv4 hm
      exfalso
      omega
    | succ m ih =>
      intro i μ hv0 hv1 hv2 hv3 hv4 hm
      have ci : am_c i = i := am_cR (by omega) (by omega)
      have cn : am_c (ν 1 4) = ν 1 4 := am_cR (by omega) (by omega)
      obtain ⟨g1, g2⟩ := am_fC_ch (c := 1) (fun a b q1 q2 => hv0 a b (by omega) (by omega))
      have g3 := g1 hf
      have e4 : μ 1 4 = ν 1 4 := hv0 1 4 (by decide) (by decide)
      have eS : μ 5 i.toNat = ν 5 i.toNat := hv0 5 _ (by omega) (by omega)
      have gT := g2 i.toNat
      have eI : (am_c i).toNat = i.toNat := by rw [ci]
      refine am_go (ct := fun pc => Nat.beq pc 10) am_oX2_draw 300 ?_
      conv => whnf
      repeat' first
        | (refine (?_ : am_wp _ _ _ _ _ _ _ _ _ _ _ _); conv => whnf)
        | (refine (?_ : am_sw _ _ _ _); conv => whnf)
        | refine And.intro trivial ?_
        | exact trivial
        | exact g3
        | refine x_tenths_1 _ ?_ ?_ ?_ ?_
        | (refine x_put _ _ _ ?_ ?_ ?_ ?_ ?_ ?_ (fun μ2 y1 y2 y3 y4 => ?_))
        | refine k _ ?_ ?_ ?_
        | refine ih _ _ ?_ ?_ ?_ ?_ ?_ ?_
        | refine And.intro (fun h => absurd h (by decide)) (fun _ => ?_)
        | refine And.intro (fun _ => ?_) (fun h => absurd (by decide) h)
        | refine And.intro (fun _ => ?_) (fun _ => ?_)
        | refine And.intro ?_ ?_
      all_goals (first | decide | assumption | omega | (simp only [hv1, ci, cn, e4] at *; omega) | (have hi : i < ν 1 4 := (by simp only [hv1, ci, cn, e4] at *; omega); have z1 := @hq i.toNat hf (by omega); have z2 := hs i.toNat (by omega); simp only [eI, eS, gT]; omega) | (intro a b h1 h2; rw [y1 a b (by omega)]; exact hv0 a b h1 h2) | (rw [y1 29 0 (by omega)]; exact hv1) | (intro q hq; by_cases d : (q : Int) = i; (rw [show q = i.toNat by omega, y2, y3, y4]; refine ⟨?_, ?_, ?_⟩ <;> simp only [eI, eS, gT]); (rw [y1 30 q (by omega), y1 31 q (by omega), y1 32 q (by omega)]; exact hv4 q (by omega))) | (intro q hq; exact hv4 q (by simp only [hv1, ci, cn, e4] at *; omega)) | (trace_state; fail))
  have lp10' : ∀ (i : Int) (μ : am_N) , (∀ a b, ¬(30 ≤ a ∧ a ≤ 32) → ¬(a = 29 ∧ b = 0) → μ a b = ν a b) → μ 29 0 = ν 1 4 → 0 ≤ i → i ≤ ν 1 4 → (∀ q : Nat, (q : Int) < i → μ 30 q = fp_pt (am_TC ν 1 q) (ν 5 q) 0 ∧ μ 31 q = am_TC ν 1 q ∧ μ 32 q = am_TC ν 1 q + ν 5 q) → am_AW l 0 (fun _ => 0) 21 Q 10 [some (.inr (.inr 29)), some (.inr (.inr 1)), some (.inl i)] [] μ := fun i μ hv0 hv1 hv2 hv3 hv4 => lp10 ((ν 1 4 - i) + 1).toNat i μ hv0 hv1 hv2 hv3 hv4 (by omega)
  refine am_go (ct := fun pc => Nat.beq pc 10) am_oX2_draw 300 ?_
  conv => whnf
  repeat' first
    | (refine (?_ : am_wp _ _ _ _ _ _ _ _ _ _ _ _); conv => whnf)
    | (refine (?_ : am_sw _ _ _ _); conv => whnf)
    | refine And.intro trivial ?_
    | exact trivial
    | refine lp10' _ _ ?_ ?_ ?_ ?_ ?_
    | refine And.intro (fun h => absurd h (by decide)) (fun _ => ?_)
    | refine And.intro (fun _ => ?_) (fun h => absurd (by decide) h)
    | refine And.intro (fun _ => ?_) (fun _ => ?_)
    | refine And.intro ?_ ?_
  all_goals (first | decide | assumption | omega | rfl | (intro a b h1 h2; rw [am_upS, if_neg h2]) | (exact if_pos ⟨rfl, rfl⟩) | (intros; omega) | (trace_state; fail))
theorem s_allWays {l : Launch} {ν : am_N} {Q : Option am_V → am_N → Prop} (k : Q (some (.inl (am_shl 1 (2 * ν 29 0)))) ν) : am_Does l 23 [.inr (.inr 29)] ν Q := by
  refine am_Does_of (Nat.le_of_ble_eq_true rfl) (Nat.le_of_ble_eq_true rfl) (Nat.le_of_ble_eq_true rfl) ?_
  refine am_go (ct := fun _ => false) am_oX2_allWays 300 ?_
  conv => whnf
  repeat' first
    | (refine (?_ : am_wp _ _ _ _ _ _ _ _ _ _ _ _); conv => whnf)
    | (refine (?_ : am_sw _ _ _ _); conv => whnf)
    | refine And.intro trivial ?_
    | exact trivial
    | exact k
    | refine And.intro (fun h => absurd h (by decide)) (fun _ => ?_)
    | refine And.intro (fun _ => ?_) (fun h => absurd (by decide) h)
    | refine And.intro (fun _ => ?_) (fun _ => ?_)
    | refine And.intro ?_ ?_
  all_goals (first | decide | (trace_state; fail))
/-- who is sure to be first, never -/
def fp_sb2 (F : am_N) (x : Int) : Nat → Int
  | 0 => 0
  | i + 1 => if fp_lw F i = x then am_or (fp_sb2 F x i) (am_shl 1 i) else fp_sb2 F x i
theorem fp_sb2_b (F : am_N) (x : Int) : ∀ i : Nat, i ≤ 4 → 0 ≤ fp_sb2 F x i ∧ fp_sb2 F x i ≤ 15 := by
  intro i
  induction i with
  | zero => intro _; exact ⟨(by first | exact Int.le_refl 0 | (show (0 : Int) ≤ 1; decide) | (show (0 : Int) ≤ _; decide) | (show _ ≤ (0 : Int); decide) | (show (1 : Int) ≤ _; decide) | (show (0 : Int) < _; decide)), (by first | exact Int.le_refl 0 | (show (0 : Int) ≤ 1; decide) | (show (0 : Int) ≤ _; decide) | (show _ ≤ (0 : Int); decide) | (show (1 : Int) ≤ _; decide) | (show (0 : Int) < _; decide))⟩
  | succ i ih =>
    intro hi
    have q := ih (by omega)
    simp only [fp_sb2]
    split
    · exact fp_or1 q.1 q.2 (by omega) (by omega)
    · exact q
def fp_sur (F : am_N) (w : Int) : Int := if ¬(w = 0 ∨ w = 1) then -2 else fp_sb2 F (if w = 0 then fp_al2 F else 0) (F 0 4).toNat
theorem sx_dr {ν μ : am_N} (hS : sx ν ν) (f : ∀ a b, ¬(30 ≤ a ∧ a ≤ 32) → ¬(a = 29 ∧ b = 0) → a ≠ 78 → μ a b = ν a b) (h29 : 0 ≤ μ 29 0 ∧ μ 29 0 ≤ 4) : sx ν μ := sx_ad hS (fun a b _ q2 q3 q4 => f a b q2 q3 q4) (by rw [f 15 4 (by omega) (by omega) (by omega)]; exact hS.2.2.2.1.2.1) h29
theorem s_sure {l : Launch} {ν : am_N} {Q : Option am_V → am_N → Prop} (w : Int) (cw : am_c w = w) (hS : sx ν ν) (hw : fp_fw 999 (fv ν 1)) (k : ∀ μ' : am_N, sx ν μ' → Q (some (.inl (fp_sur (fv ν 1) w))) μ') : am_Does l 72 [.inr (.inr 0), .inl w] ν Q := by
  refine am_Does_of (Nat.le_of_ble_eq_true rfl) (Nat.le_of_ble_eq_true rfl) (Nat.le_of_ble_eq_true rfl) ?_
  have l0 : am_c 0 = 0 := rfl
  have l1 : am_c 1 = 1 := rfl
  have l2 : am_c 2 = 2 := rfl
  have l3 : am_c 3 = 3 := rfl
  have l4 : am_c 4 = 4 := rfl
  have l20 : am_c 20 = 20 := rfl
  have l200 : am_c 200 = 200 := rfl
  have m1' : am_c (-1) = -1 := rfl
  have m2' : am_c (-2) = -2 := rfl
  have m9' : am_c (-9) = -9 := rfl
  obtain ⟨hf, -, -, -, -, -, hx⟩ := fw_C hw (by decide)
  have f0 := hf.1.1
  have f1 := hf.1.2
  have e4 : fv ν 1 0 4 = ν 1 4 := fv_0 (by decide)
  have cn : am_c (ν 1 4) = ν 1 4 := am_cR (by omega) (by omega)
  have al := fp_al2_b f0 f1
  have kk := fun (x : Int) (μ' : am_N) (h : sx ν μ') (e : x = fp_sur (fv ν 1) w) => am_qe (k μ' h) e
  have hs : ∀ q : Nat, (q : Int) < ν 1 4 → 0 ≤ ν 5 q ∧ ν 5 q ≤ 20 := fun q hq => (hx q hq).2.2.2
  have ea : fp_al2 (fv ν 1) = am_shl 1 (2 * ν 1 4) := by unfold fp_al2; rw [e4]
  have lp46 : ∀ (m : Nat) (y x i : Int) (μ : am_N) , (∀ a b, ¬(30 ≤ a ∧ a ≤ 32) → ¬(a = 29 ∧ b = 0) → μ a b = ν a b) → μ 29 0 = ν 1 4 → (∀ q : Nat, (q : Int) < ν 1 4 → μ 30 q = fp_pt (am_TC ν 1 q) (ν 5 q) 0 ∧ μ 31 q = am_TC ν 1 q ∧ μ 32 q = am_TC ν 1 q + ν 5 q) → 0 ≤ i → i ≤ ν 1 4 → x = fp_sb2 (fv ν 1) y i.toNat → y = (if w = 0 then fp_al2 (fv ν 1) else 0) → (w = 0 ∨ w = 1) → ν 1 4 - i < (m : Int) → am_AW l 0 (fun _ => 0) 72 Q 46 [some (.inr (.inr 0)), some (.inl w), some (.inl y), some (.inl x), some (.inl i)] [] μ := by
    intro m
    induction m with
    | zero =>
      intro y x i μ hv0 hv1 hv2 hv3 hv4 hv5 hv6 hv7 hm
      exfalso
      omega
    | succ m ih =>
      intro y x i μ hv0 hv1 hv2 hv3 hv4 hv5 hv6 hv7 hm
      have ci : am_c i = i := am_cR (by omega) (by omega)
      have e14 : μ 1 4 = ν 1 4 := hv0 1 4 (by omega) (by omega)
      have sE : sx ν μ := sx_dr hS (fun a b q2 q3 _ => hv0 a b q2 q3) (by rw [hv1]; exact ⟨f0, f1⟩)
      have hb := fp_rw_b (c := 1) hf hs hv1 hv2
      have lw := fp_lw_b (F := (fv ν 1)) (by rw [e4]; exact f1) i.toNat
      have yb : 0 ≤ y ∧ y ≤ 256 := by rw [hv6, ea]; split <;> omega
      have cy : am_c y = y := am_cR (by omega) (by omega)
      have cl : am_c (fp_lw (fv ν 1) i.toNat) = fp_lw (fv ν 1) i.toNat := am_cR (by omega) (by omega)
      refine am_go (ct := fun pc => Nat.beq pc 46) am_oX6_sure 300 ?_
      conv => whnf
      repeat' first
        | (refine (?_ : am_wp _ _ _ _ _ _ _ _ _ _ _ _); conv => whnf)
        | (refine (?_ : am_sw _ _ _ _); conv => whnf)
        | refine And.intro trivial ?_
        | exact trivial
        | (have hi : i < ν 1 4 := (by rw [ci, e14, cn] at *; omega); refine x_ways i hv3 (by rw [hv1]; exact hi) (by rw [hv1]; exact f1) hb ?_; rw [fp_lw_C1 f1 (by omega) hv1 hv2])
        | refine kk _ _ sE ?_
        | refine x_noPart _ cw (fun z => ?_) (fun z => ?_)
        | refine x_refuse _ ?_ (fun μr fr => ?_)
        | refine x_draw_1 hf hs (fun μ1 g1 d0 dr => ?_)
        | refine s_allWays ?_
        | refine kk _ _ (sx_78 hS fr) ?_
        | refine ih _ _ _ _ ?_ ?_ ?_ ?_ ?_ ?_ ?_ ?_ ?_
        | refine And.intro (fun h => absurd h (by decide)) (fun _ => ?_)
        | refine And.intro (fun _ => ?_) (fun h => absurd (by decide) h)
        | refine And.intro (fun _ => ?_) (fun _ => ?_)
        | refine And.intro ?_ ?_
      all_goals (first | decide | assumption | omega | (rw [show (i + 1).toNat = i.toNat + 1 by omega]; simp only [fp_sb2]; have ei : ((i.toNat : Nat) : Int) = i := Int.toNat_of_nonneg hv3; rw [hv5, ei]; first | (rw [if_pos (by simp only [cl, cy] at *; omega)]) | (rw [if_neg (by simp only [cl, cy] at *; omega)])) | (unfold fp_sur; rw [e4, if_neg (by omega), hv5, hv6, show i.toNat = (ν 1 4).toNat by rw [ci, e14, cn] at *; omega]) | (trace_state; fail))
  have lp46' : ∀ (y x i : Int) (μ : am_N) , (∀ a b, ¬(30 ≤ a ∧ a ≤ 32) → ¬(a = 29 ∧ b = 0) → μ a b = ν a b) → μ 29 0 = ν 1 4 → (∀ q : Nat, (q : Int) < ν 1 4 → μ 30 q = fp_pt (am_TC ν 1 q) (ν 5 q) 0 ∧ μ 31 q = am_TC ν 1 q ∧ μ 32 q = am_TC ν 1 q + ν 5 q) → 0 ≤ i → i ≤ ν 1 4 → x = fp_sb2 (fv ν 1) y i.toNat → y = (if w = 0 then fp_al2 (fv ν 1) else 0) → (w = 0 ∨ w = 1) → am_AW l 0 (fun _ => 0) 72 Q 46 [some (.inr (.inr 0)), some (.inl w), some (.inl y), some (.inl x), some (.inl i)] [] μ := fun y x i μ hv0 hv1 hv2 hv3 hv4 hv5 hv6 hv7 => lp46 ((ν 1 4 - i) + 1).toNat y x i μ hv0 hv1 hv2 hv3 hv4 hv5 hv6 hv7 (by omega)
  refine am_go (ct := fun pc => Nat.beq pc 46) am_oX6_sure 300 ?_
  conv => whnf
  repeat' first
    | (refine (?_ : am_wp _ _ _ _ _ _ _ _ _ _ _ _); conv => whnf)
    | (refine (?_ : am_sw _ _ _ _); conv => whnf)
    | refine And.intro trivial ?_
    | exact trivial
    | refine x_noPart _ cw (fun z => ?_) (fun z => ?_)
    | refine x_refuse _ ?_ (fun μr fr => ?_)
    | refine x_draw_1 hf hs (fun μ1 g1 d0 dr => ?_)
    | refine s_allWays ?_
    | refine kk _ _ (sx_78 hS fr) ?_
    | refine lp46' _ _ _ _ ?_ ?_ ?_ ?_ ?_ ?_ ?_ ?_
    | refine And.intro (fun h => absurd h (by decide)) (fun _ => ?_)
    | refine And.intro (fun _ => ?_) (fun h => absurd (by decide) h)
    | refine And.intro (fun _ => ?_) (fun _ => ?_)
    | refine And.intro ?_ ?_
  all_goals (first | decide | assumption | omega | rfl | (intro a b q1 q2; exact g1 a b q1 q2) | (rw [d0, ea, if_pos (by simp only [cw, l0] at *; omega)]) | (rw [if_neg (by simp only [cw, l0] at *; omega)]) | (unfold fp_sur; rw [if_pos (by omega)]) | (trace_state; fail))
theorem n_sure {l : Launch} {ν : am_N} {Q : Option am_V → am_N → Prop} (w : Int) (cw : am_c w = w) (hm : mi ν) (hw : fp_fw 999 (mv ν)) (k : ∀ μ' : am_N, gm ms ν μ' → Q (some (.inl (fp_sur (mv ν) w))) μ') : am_Does l 191 [.inr (.inr 83), .inl w] ν Q := by
  refine am_Does_of (Nat.le_of_ble_eq_true rfl) (Nat.le_of_ble_eq_true rfl) (Nat.le_of_ble_eq_true rfl) ?_
  have l0 : am_c 0 = 0 := rfl
  have l1 : am_c 1 = 1 := rfl
  have l2 : am_c 2 = 2 := rfl
  have l3 : am_c 3 = 3 := rfl
  have l4 : am_c 4 = 4 := rfl
  have l20 : am_c 20 = 20 := rfl
  have l200 : am_c 200 = 200 := rfl
  have m1' : am_c (-1) = -1 := rfl
  have m2' : am_c (-2) = -2 := rfl
  have m9' : am_c (-9) = -9 := rfl
  obtain ⟨hf, -, -, -, -, -, hx⟩ := fw_M hw (by decide)
  have f0 := hf.1.1
  have f1 := hf.1.2
  have e4 : mv ν 0 4 = ν 83 14 := rfl
  have cn : am_c (ν 83 14) = ν 83 14 := am_cR (by omega) (by omega)
  have al := fp_al2_b f0 f1
  have kk := fun (x : Int) (μ' : am_N) (h : gm ms ν μ') (e : x = fp_sur (mv ν) w) => am_qe (k μ' h) e
  have ea : fp_al2 (mv ν) = am_shl 1 (2 * ν 83 14) := rfl
  have lp24 : ∀ (m : Nat) (x i : Int) (μ : am_N) , gm ms ν μ → (∀ r : Nat, (r : Int) < ν 83 14 → μ 104 r = fp_lw (mv ν) r) → 0 ≤ i → i ≤ ν 83 14 → x = fp_sb2 (mv ν) (if w = 0 then fp_al2 (mv ν) else 0) i.toNat → (w = 0 ∨ w = 1) → ν 83 14 - i < (m : Int) → am_AW l 0 (fun _ => 0) 191 Q 24 [some (.inr (.inr 83)), some (.inl w), some (.inl x), some (.inl i)] [] μ := by
    intro m
    induction m with
    | zero =>
      intro x i μ hv0 hv1 hv2 hv3 hv4 hv5 hm
      exfalso
      omega
    | succ m ih =>
      intro x i μ hv0 hv1 hv2 hv3 hv4 hv5 hm
      have ci : am_c i = i := am_cR (by omega) (by omega)
      have e14 : μ 83 14 = ν 83 14 := hv0.2 83 14 rfl
      have lw := fp_lw_b (F := (mv ν)) f1 i.toNat
      have cA : am_c (am_shl 1 (2 * ν 83 14)) = am_shl 1 (2 * ν 83 14) := am_cR (by omega) (by omega)
      have cl : am_c (fp_lw (mv ν) i.toNat) = fp_lw (mv ν) i.toNat := am_cR (by omega) (by omega)
      have sb := fp_sb2_b (mv ν) (if w = 0 then fp_al2 (mv ν) else 0) i.toNat (by omega)
      have ei : ((i.toNat : Nat) : Int) = i := Int.toNat_of_nonneg hv2
      have fi := fun q : i < ν 83 14 => hv1 i.toNat (by omega)
      refine am_go (ct := fun pc => Nat.beq pc 24) am_oX7_sure 300 ?_
      conv => whnf
      repeat' first
        | (refine (?_ : am_wp _ _ _ _ _ _ _ _ _ _ _ _); conv => whnf)
        | (refine (?_ : am_sw _ _ _ _); conv => whnf)
        | refine And.intro trivial ?_
        | exact trivial
        | exact hv0
        | refine n_races ?_
        | refine kk _ _ hv0 ?_
        | exact h1
        | refine x_isIn w _ _ _ rfl cw ?_ ?_ (fun _ _ => ?_) (fun _ => ?_)
        | refine x_no _ ?_ (fun μr fr => ?_)
        | refine n_findFirsts hm hw (fun μ1 h1 g1 v1 => ?_)
        | refine kk _ _ (mi_84 hm fr) ?_
        | refine And.intro (fun h => absurd h (by omega)) (fun _ => ?_)
        | refine And.intro (fun _ => ?_) (fun h => absurd h (by omega))
        | refine ih _ _ _ ?_ ?_ ?_ ?_ ?_ ?_ ?_
        | refine And.intro (fun h => absurd h (by decide)) (fun _ => ?_)
        | refine And.intro (fun _ => ?_) (fun h => absurd (by decide) h)
        | refine And.intro (fun _ => ?_) (fun _ => ?_)
        | refine And.intro ?_ ?_
      all_goals (first | decide | assumption | omega | (rw [ci]; rw [ci, e14, cn] at *; omega) | (have hi : i < ν 83 14 := (by simp only [ci, e14, cn] at *; omega); have fi := fi hi; rw [show (i + 1).toNat = i.toNat + 1 by omega]; simp only [fp_sb2]; rw [hv4, ei]; first | (rw [if_pos (by first | (rw [if_pos (by simp only [cw, l0] at *; omega), ea]; simp only [ci, e14, fi, cl, cA] at *; omega) | (rw [if_neg (by simp only [cw, l0] at *; omega)]; simp only [ci, e14, fi, cl, l0] at *; omega))]) | (rw [if_neg (by first | (rw [if_pos (by simp only [cw, l0] at *; omega), ea]; simp only [ci, e14, fi, cl, cA] at *; omega) | (rw [if_neg (by simp only [cw, l0] at *; omega)]; simp only [ci, e14, fi, cl, l0] at *; omega))]; exact fp_or0 sb.1 sb.2)) | (unfold fp_sur; rw [e4, if_neg (by omega), hv4, show i.toNat = (ν 83 14).toNat by rw [ci, e14, cn] at *; omega]) | (trace_state; fail))
  have lp24' : ∀ (x i : Int) (μ : am_N) , gm ms ν μ → (∀ r : Nat, (r : Int) < ν 83 14 → μ 104 r = fp_lw (mv ν) r) → 0 ≤ i → i ≤ ν 83 14 → x = fp_sb2 (mv ν) (if w = 0 then fp_al2 (mv ν) else 0) i.toNat → (w = 0 ∨ w = 1) → am_AW l 0 (fun _ => 0) 191 Q 24 [some (.inr (.inr 83)), some (.inl w), some (.inl x), some (.inl i)] [] μ := fun x i μ hv0 hv1 hv2 hv3 hv4 hv5 => lp24 ((ν 83 14 - i) + 1).toNat x i μ hv0 hv1 hv2 hv3 hv4 hv5 (by omega)
  refine am_go (ct := fun pc => Nat.beq pc 24) am_oX7_sure 300 ?_
  conv => whnf
  repeat' first
    | (refine (?_ : am_wp _ _ _ _ _ _ _ _ _ _ _ _); conv => whnf)
    | (refine (?_ : am_sw _ _ _ _); conv => whnf)
    | refine And.intro trivial ?_
    | exact trivial
    | exact h1
    | refine x_isIn w _ _ _ rfl cw ?_ ?_ (fun _ _ => ?_) (fun _ => ?_)
    | refine x_no _ ?_ (fun μr fr => ?_)
    | refine n_findFirsts hm hw (fun μ1 h1 g1 v1 => ?_)
    | refine kk _ _ (mi_84 hm fr) ?_
    | refine And.intro (fun h => absurd h (by omega)) (fun _ => ?_)
    | refine And.intro (fun _ => ?_) (fun h => absurd h (by omega))
    | refine lp24' _ _ _ ?_ ?_ ?_ ?_ ?_ ?_
    | refine And.intro (fun h => absurd h (by decide)) (fun _ => ?_)
    | refine And.intro (fun _ => ?_) (fun h => absurd (by decide) h)
    | refine And.intro (fun _ => ?_) (fun _ => ?_)
    | refine And.intro ?_ ?_
  all_goals (first | decide | assumption | omega | rfl | (unfold fp_sur; rw [if_pos (by omega)]) | (trace_state; fail))
/-! a fraction in lowest terms -/
theorem fp_dR {z : Int} (h1 : -1000000000000 ≤ z) (h2 : z ≤ 1000000000000) : am_d z = z := by
  unfold am_d; omega
/-- what a comparison of longs tells -/
theorem fp_lcv (u v : Int) : (v < u ∧ am_c (if v < u then 1 else if u = v then 0 else -1) = 1) ∨ (u = v ∧ am_c (if v < u then 1 else if u = v then 0 else -1) = 0) ∨ (u < v ∧ am_c (if v < u then 1 else if u = v then 0 else -1) = -1) := by
  by_cases h : v < u
  · rw [if_pos h]; exact Or.inl ⟨h, rfl⟩
  · rw [if_neg h]
    by_cases g : u = v
    · rw [if_pos g]; exact Or.inr (Or.inl ⟨g, rfl⟩)
    · rw [if_neg g]; exact Or.inr (Or.inr ⟨by omega, rfl⟩)
def fp_gd (a b : Int) : Int := ((Nat.gcd a.toNat b.toNat : Nat) : Int)
theorem fp_gd_p {a b : Int} (hb : 0 < b) : 0 < fp_gd a b := by
  have h := Nat.gcd_pos_of_pos_right a.toNat (show 0 < b.toNat by omega)
  unfold fp_gd
  omega
theorem fp_gd_l {a b : Int} (hb : 0 < b) : fp_gd a b ≤ b := by
  have h := Nat.le_of_dvd (show 0 < b.toNat by omega) (Nat.gcd_dvd_right a.toNat b.toNat)
  unfold fp_gd
  omega
/-- the part w of a fraction -/
def fp_fr (a b w : Int) : Int := if w = 0 then a.tdiv (fp_gd a b) else b.tdiv (fp_gd a b)
theorem fp_gd_s {x y : Int} (hx : 0 ≤ x) (hy : 0 < y) : fp_gd y (x.tmod y) = fp_gd x y ∧ 0 ≤ x.tmod y ∧ x.tmod y < y := by
  have e : x.tmod y = x % y := Int.tmod_eq_emod_of_nonneg hx
  have e2 : (x % y).toNat = x.toNat % y.toNat := Int.toNat_emod hx (by omega)
  have b0 := Int.emod_nonneg x (show y ≠ 0 by omega)
  have b1 := Int.emod_lt_of_pos x hy
  rw [e]
  refine ⟨?_, b0, b1⟩
  unfold fp_gd
  rw [e2, Nat.gcd_comm x.toNat, Nat.gcd_rec y.toNat x.toNat, Nat.gcd_comm]
theorem fp_gd_0 {x : Int} (hx : 0 ≤ x) : fp_gd x 0 = x := by
  unfold fp_gd
  rw [show (0 : Int).toNat = 0 from rfl, Nat.gcd_zero_right]
  exact Int.toNat_of_nonneg hx
/-- halved: the fraction is the same -/
theorem fp_hv {x y A g : Int} (hx : 0 ≤ x) (hy : 0 ≤ y) (h : (2 * x) * g = A * fp_gd (2 * x) (2 * y)) : x * g = A * fp_gd x y := by
  have e : fp_gd (2 * x) (2 * y) = 2 * fp_gd x y := by
    unfold fp_gd
    rw [show (2 * x).toNat = 2 * x.toNat by omega, show (2 * y).toNat = 2 * y.toNat by omega, Nat.gcd_mul_left]
    omega
  rw [e, Int.mul_assoc, Int.mul_left_comm] at h
  exact Int.eq_of_mul_eq_mul_left (by decide : (2 : Int) ≠ 0) h
theorem fp_hw {x y B g : Int} (hx : 0 ≤ x) (hy : 0 ≤ y) (h : (2 * y) * g = B * fp_gd (2 * x) (2 * y)) : y * g = B * fp_gd x y := by
  have e : fp_gd (2 * x) (2 * y) = 2 * fp_gd x y := by
    unfold fp_gd
    rw [show (2 * x).toNat = 2 * x.toNat by omega, show (2 * y).toNat = 2 * y.toNat by omega, Nat.gcd_mul_left]
    omega
  rw [e, Int.mul_assoc, Int.mul_left_comm] at h
  exact Int.eq_of_mul_eq_mul_left (by decide : (2 : Int) ≠ 0) h
theorem fp_g1 {x y : Int} {t : Nat} (hx : 0 ≤ x) (hy : y = ((2 ^ t : Nat) : Int)) (h : x.tmod 2 ≠ 0 ∨ y ≤ 1) : fp_gd x y = 1 := by
  unfold fp_gd
  rcases h with h | h
  · rw [Int.tmod_eq_emod_of_nonneg hx] at h
    have o : x.toNat % 2 = 1 := by omega
    have c : Nat.Coprime x.toNat 2 := by
      show Nat.gcd x.toNat 2 = 1
      rw [Nat.gcd_comm, Nat.gcd_rec, o]
    have q : Nat.gcd x.toNat (2 ^ t) = 1 := Nat.Coprime.pow_right t c
    rw [hy, Int.toNat_natCast, q]
    rfl
  · have p : 0 < 2 ^ t := Nat.pow_pos (by decide)
    have y1 : y.toNat = 1 := by omega
    rw [y1, Nat.gcd_one_right]
    rfl
theorem fp_p2 {y : Int} {t : Nat} (hy : y = ((2 ^ t : Nat) : Int)) (h : 1 < y) : ∃ u : Nat, t = u + 1 ∧ y.tdiv 2 = ((2 ^ u : Nat) : Int) ∧ y = 2 * y.tdiv 2 := by
  cases t with
  | zero => exfalso; rw [hy] at h; exact absurd h (by decide)
  | succ u =>
    have e : y = 2 * ((2 ^ u : Nat) : Int) := by rw [hy, Nat.pow_succ]; omega
    have d : y.tdiv 2 = ((2 ^ u : Nat) : Int) := by rw [Int.tdiv_eq_ediv_of_nonneg (by omega)]; omega
    exact ⟨u, rfl, d, by rw [d]; exact e⟩
theorem fp_fr_e {x g A : Int} (hg : 0 < g) (h : x * g = A) : x = A.tdiv g := by
  rw [← h]
  exact (Int.mul_tdiv_cancel x (by omega)).symm
theorem am_qd {Q : Option am_V → am_N → Prop} {μ : am_N} {x z : Int} (k : Q (some (.inr (.inl z))) μ) (h : x = z) : Q (some (.inr (.inl x))) μ := by rw [h]; exact k
theorem fp_lceq (x : Int) : am_c (if am_d x < am_d x then 1 else if am_d x = am_d x then 0 else -1) = 0 := by rw [if_neg (Int.lt_irrefl _), if_pos rfl]; rfl
theorem x_refuseLong {l : Launch} {ν : am_N} {Q : Option am_V → am_N → Prop} (w : Int) (hw : w = -1 ∨ w = -2 ∨ w = -3 ∨ w = -4 ∨ w = -6) (k : ∀ μ' : am_N, (∀ a b, a ≠ 78 → μ' a b = ν a b) → Q (some (.inr (.inl (4000000000000000000 - w)))) μ') : am_Does l 115 [.inr (.inr 0), .inl w] ν Q := by
  refine am_Does_of (Nat.le_of_ble_eq_true rfl) (Nat.le_of_ble_eq_true rfl) (Nat.le_of_ble_eq_true rfl) ?_
  have cw : am_c w = w := am_cR (by omega) (by omega)
  have kk := fun (x : Int) (μ' : am_N) (h : ∀ a b, a ≠ 78 → μ' a b = ν a b) (e : x = 4000000000000000000 - w) => am_qd (k μ' h) e
  refine am_go (ct := fun _ => false) am_oX6_refuseLong 300 ?_
  conv => whnf
  repeat' first
    | (refine (?_ : am_wp _ _ _ _ _ _ _ _ _ _ _ _); conv => whnf)
    | (refine (?_ : am_sw _ _ _ _); conv => whnf)
    | refine And.intro trivial ?_
    | exact trivial
    | refine x_refuse _ ?_ (fun μr fr => ?_)
    | refine kk _ _ fr ?_
    | refine And.intro (fun h => absurd h (by decide)) (fun _ => ?_)
    | refine And.intro (fun _ => ?_) (fun h => absurd (by decide) h)
    | refine And.intro (fun _ => ?_) (fun _ => ?_)
    | refine And.intro ?_ ?_
  all_goals (first | decide | assumption | (rw [cw]) | (trace_state; fail))
theorem x_lowest {l : Launch} {ν : am_N} {Q : Option am_V → am_N → Prop} (w : Int) (hw : w = -1 ∨ w = -2 ∨ w = -3 ∨ w = -4 ∨ w = -6) (k : ∀ μ' : am_N, (∀ a b, a ≠ 84 → μ' a b = ν a b) → Q (some (.inr (.inl (4000000000000000000 - w)))) μ') : am_Does l 142 [.inr (.inr 83), .inl w] ν Q := by
  refine am_Does_of (Nat.le_of_ble_eq_true rfl) (Nat.le_of_ble_eq_true rfl) (Nat.le_of_ble_eq_true rfl) ?_
  have cw : am_c (-w) = -w := am_cR (by omega) (by omega)
  have cx : am_c w = w := am_cR (by omega) (by omega)
  have kk := fun (x : Int) (μ' : am_N) (h : ∀ a b, a ≠ 84 → μ' a b = ν a b) (e : x = 4000000000000000000 - w) => am_qd (k μ' h) e
  refine am_go (ct := fun _ => false) am_oX7_lowest 300 ?_
  conv => whnf
  repeat' first
    | (refine (?_ : am_wp _ _ _ _ _ _ _ _ _ _ _ _); conv => whnf)
    | (refine (?_ : am_sw _ _ _ _); conv => whnf)
    | refine And.intro trivial ?_
    | exact trivial
    | refine kk _ _ ?_ ?_
    | refine And.intro (fun h => absurd h (by decide)) (fun _ => ?_)
    | refine And.intro (fun _ => ?_) (fun h => absurd (by decide) h)
    | refine And.intro (fun _ => ?_) (fun _ => ?_)
    | refine And.intro ?_ ?_
  all_goals (first | decide | omega | (intro a b h; exact am_upN h) | (simp only [cw] at *; omega) | (rw [cx]) | (trace_state; fail))
theorem s_fraction {l : Launch} {μ : am_N} {Q : Option am_V → am_N → Prop} (A B w : Int) (e0 : Nat) (cw : am_c w = w) (A0 : 0 ≤ A) (A1 : A ≤ 1000000) (eB : B = ((2 ^ e0 : Nat) : Int)) (h0 : e0 ≤ 12) (B1 : B ≤ 1000000) (k : Q (some (.inr (.inl (fp_fr A B w)))) μ) : am_Does l 118 [.inr (.inl A), .inr (.inl B), .inl w] μ Q := by
  refine am_Does_of (Nat.le_of_ble_eq_true rfl) (Nat.le_of_ble_eq_true rfl) (Nat.le_of_ble_eq_true rfl) ?_
  have l0 : am_c 0 = 0 := rfl
  have l1 : am_c 1 = 1 := rfl
  have l2 : am_c 2 = 2 := rfl
  have l16 : am_c 16 = 16 := rfl
  have l62 : am_c 62 = 62 := rfl
  have l4096 : am_c 4096 = 4096 := rfl
  have p0 : 0 < 2 ^ e0 := Nat.pow_pos (by decide)
  have gp := fp_gd_p (a := A) (b := B) (by omega)
  have d2 : am_d 2 = 2 := rfl
  have d1 : am_d 1 = 1 := rfl
  have d0 : am_d 0 = 0 := rfl
  have lp9 : ∀ (m : Nat) (x y j : Int) , 0 ≤ x → x ≤ 1000000 → 1 ≤ y → y ≤ 1000000 → 0 ≤ j → (∃ t : Nat, y = ((2 ^ t : Nat) : Int) ∧ (t : Int) + j ≤ 12) → x * fp_gd A B = A * fp_gd x y → y * fp_gd A B = B * fp_gd x y → 20 - j < (m : Int) → am_AW l 0 (fun _ => 0) 118 Q 9 [some (.inr (.inl A)), none, some (.inr (.inl B)), none, some (.inl w), some (.inr (.inl x)), none, some (.inr (.inl y)), none, some (.inl j)] [] μ := by
    intro m
    induction m with
    | zero =>
      intro x y j  hv0 hv1 hv2 hv3 hv4 hv5 hv6 hv7 hm
      exfalso
      omega
    | succ m ih =>
      intro x y j  hv0 hv1 hv2 hv3 hv4 hv5 hv6 hv7 hm
      obtain ⟨t, hy, ht⟩ := hv5
      have cj : am_c j = j := am_cR (by omega) (by omega)
      have dx : am_d x = x := fp_dR (by omega) (by omega)
      have dy : am_d y = y := fp_dR (by omega) (by omega)
      have xm : x.tmod 2 = x % 2 := Int.tmod_eq_emod_of_nonneg hv0
      have xd : x.tdiv 2 = x / 2 := Int.tdiv_eq_ediv_of_nonneg hv0
      have yd : y.tdiv 2 = y / 2 := Int.tdiv_eq_ediv_of_nonneg (by omega)
      have dm : am_d (x.tmod 2) = x.tmod 2 := by rw [xm]; exact fp_dR (by omega) (by omega)
      have z1 := fp_lcv (x.tmod 2) 0
      have z2 := fp_lcv y 1
      refine am_go (ct := fun pc => Nat.beq pc 9) am_oX6_fraction 300 ?_
      conv => whnf
      repeat' first
        | (refine (?_ : am_wp _ _ _ _ _ _ _ _ _ _ _ _); conv => whnf)
        | (refine (?_ : am_sw _ _ _ _); conv => whnf)
        | refine And.intro trivial ?_
        | exact trivial
        | (have q1 : x.tmod 2 ≠ 0 ∨ y ≤ 1 := (by simp only [dx, dy, d2, d1, d0, dm, l0] at *; omega); have g1 := fp_g1 hv0 hy q1; rw [g1, Int.mul_one] at hv6 hv7; refine am_qd k ?_)
        | refine ih _ _ _ ?_ ?_ ?_ ?_ ?_ ?_ ?_ ?_ ?_
        | refine ih _ _ _  ?_ ?_ ?_ ?_ ?_ ?_ ?_ ?_ ?_
        | refine And.intro (fun h => absurd h (by decide)) (fun _ => ?_)
        | refine And.intro (fun _ => ?_) (fun h => absurd (by decide) h)
        | refine And.intro (fun _ => ?_) (fun _ => ?_)
        | refine And.intro ?_ ?_
      all_goals (first | decide | assumption | omega | (rw [d2]; decide) | (simp only [dx, dy, d2, d1, d0, dm, l0, cj] at *; omega) | (have q1 : x.tmod 2 = 0 ∧ 1 < y := (by simp only [dx, dy, d2, d1, d0, dm, l0] at *; omega); obtain ⟨u, tu, yu, y2⟩ := fp_p2 hy q1.2; rw [dx, dy, d2] at *; first | exact ⟨u, yu, by omega⟩ | (have x2 : x = 2 * x.tdiv 2 := (by omega); first | exact fp_hv (by omega) (by omega) (by rw [← x2, ← y2]; exact hv6) | exact fp_hw (by omega) (by omega) (by rw [← x2, ← y2]; exact hv7))) | (have q1 : x.tmod 2 = 0 ∧ 1 < y := (by simp only [dx, dy, d2, d1, d0, dm, l0] at *; omega); obtain ⟨u, tu, yu, y2⟩ := fp_p2 hy q1.2; simp only [dx, dy, d2]; first | omega | exact ⟨u, yu, by omega⟩ | (have x2 : x = 2 * x.tdiv 2 := (by omega); first | exact fp_hv (by omega) (by omega) (by rw [← x2, ← y2]; exact hv6) | exact fp_hw (by omega) (by omega) (by rw [← x2, ← y2]; exact hv7))) | (unfold fp_fr; first | (rw [if_pos (by simp only [cw, l0] at *; omega)]; exact fp_fr_e gp hv6) | (rw [if_neg (by simp only [cw, l0] at *; omega)]; exact fp_fr_e gp hv7)) | (trace_state; fail))
  have lp9' : ∀ (x y j : Int) , 0 ≤ x → x ≤ 1000000 → 1 ≤ y → y ≤ 1000000 → 0 ≤ j → (∃ t : Nat, y = ((2 ^ t : Nat) : Int) ∧ (t : Int) + j ≤ 12) → x * fp_gd A B = A * fp_gd x y → y * fp_gd A B = B * fp_gd x y → am_AW l 0 (fun _ => 0) 118 Q 9 [some (.inr (.inl A)), none, some (.inr (.inl B)), none, some (.inl w), some (.inr (.inl x)), none, some (.inr (.inl y)), none, some (.inl j)] [] μ := fun x y j  hv0 hv1 hv2 hv3 hv4 hv5 hv6 hv7 => lp9 ((20 - j) + 1).toNat x y j  hv0 hv1 hv2 hv3 hv4 hv5 hv6 hv7 (by omega)
  refine am_go (ct := fun pc => Nat.beq pc 9) am_oX6_fraction 300 ?_
  conv => whnf
  repeat' first
    | (refine (?_ : am_wp _ _ _ _ _ _ _ _ _ _ _ _); conv => whnf)
    | (refine (?_ : am_sw _ _ _ _); conv => whnf)
    | refine And.intro trivial ?_
    | exact trivial
    | refine lp9' _ _ _  ?_ ?_ ?_ ?_ ?_ ?_ ?_ ?_
    | refine And.intro (fun h => absurd h (by decide)) (fun _ => ?_)
    | refine And.intro (fun _ => ?_) (fun h => absurd (by decide) h)
    | refine And.intro (fun _ => ?_) (fun _ => ?_)
    | refine And.intro ?_ ?_
  all_goals (first | decide | assumption | omega | rfl | exact ⟨e0, eB, by omega⟩ | (exact Int.mul_comm _ _) | (trace_state; fail))
theorem n_divisor {l : Launch} {μ : am_N} {Q : Option am_V → am_N → Prop} (A B : Int) (A0 : 0 ≤ A) (A1 : A ≤ 1000000) (B0 : 1 ≤ B) (B1 : B ≤ 1000000) (k : Q (some (.inr (.inl (fp_gd A B)))) μ) : am_Does l 184 [.inr (.inl A), .inr (.inl B)] μ Q := by
  refine am_Does_of (Nat.le_of_ble_eq_true rfl) (Nat.le_of_ble_eq_true rfl) (Nat.le_of_ble_eq_true rfl) ?_
  have l0 : am_c 0 = 0 := rfl
  have l1 : am_c 1 = 1 := rfl
  have l2 : am_c 2 = 2 := rfl
  have l16 : am_c 16 = 16 := rfl
  have l62 : am_c 62 = 62 := rfl
  have l4096 : am_c 4096 = 4096 := rfl
  have d0 : am_d 0 = 0 := rfl
  have lp6 : ∀ (m : Nat) (x y : Int) (o8 o9 : Option am_V) , 0 ≤ x → x ≤ 1000000 → 0 ≤ y → y ≤ 1000000 → fp_gd x y = fp_gd A B → y < (m : Int) → am_AW l 0 (fun _ => 0) 184 Q 6 [some (.inr (.inl A)), none, some (.inr (.inl B)), none, some (.inr (.inl x)), none, some (.inr (.inl y)), none, o8, o9] [] μ := by
    intro m
    induction m with
    | zero =>
      intro x y o8 o9  hv0 hv1 hv2 hv3 hv4 hm
      exfalso
      omega
    | succ m ih =>
      intro x y o8 o9  hv0 hv1 hv2 hv3 hv4 hm
      have dx : am_d x = x := fp_dR (by omega) (by omega)
      have dy : am_d y = y := fp_dR (by omega) (by omega)
      have z1 := fp_lcv y 0
      have gs := fun q : 0 < y => fp_gd_s hv0 q
      refine am_go (ct := fun pc => Nat.beq pc 6) am_oX7_divisor 300 ?_
      conv => whnf
      repeat' first
        | (refine (?_ : am_wp _ _ _ _ _ _ _ _ _ _ _ _); conv => whnf)
        | (refine (?_ : am_sw _ _ _ _); conv => whnf)
        | refine And.intro trivial ?_
        | exact trivial
        | refine am_qd k ?_
        | refine ih _ _ _ _  ?_ ?_ ?_ ?_ ?_ ?_
        | refine And.intro (fun h => absurd h (by decide)) (fun _ => ?_)
        | refine And.intro (fun _ => ?_) (fun h => absurd (by decide) h)
        | refine And.intro (fun _ => ?_) (fun _ => ?_)
        | refine And.intro ?_ ?_
      all_goals (first | decide | assumption | omega | (simp only [dx, dy, d0, l0] at *; omega) | (have q1 : 0 < y := (by simp only [dx, dy, d0, l0] at *; omega); obtain ⟨h1, h2, h3⟩ := gs q1; simp only [dx, dy]; first | omega | exact h1.trans hv4) | (have q1 : y = 0 := (by simp only [dx, dy, d0, l0] at *; omega); rw [← hv4, q1]; exact (fp_gd_0 hv0).symm) | (trace_state; fail))
  have lp6' : ∀ (x y : Int) (o8 o9 : Option am_V) , 0 ≤ x → x ≤ 1000000 → 0 ≤ y → y ≤ 1000000 → fp_gd x y = fp_gd A B → am_AW l 0 (fun _ => 0) 184 Q 6 [some (.inr (.inl A)), none, some (.inr (.inl B)), none, some (.inr (.inl x)), none, some (.inr (.inl y)), none, o8, o9] [] μ := fun x y o8 o9  hv0 hv1 hv2 hv3 hv4 => lp6 ((y) + 1).toNat x y o8 o9  hv0 hv1 hv2 hv3 hv4 (by omega)
  refine am_go (ct := fun pc => Nat.beq pc 6) am_oX7_divisor 300 ?_
  conv => whnf
  repeat' first
    | (refine (?_ : am_wp _ _ _ _ _ _ _ _ _ _ _ _); conv => whnf)
    | (refine (?_ : am_sw _ _ _ _); conv => whnf)
    | refine And.intro trivial ?_
    | exact trivial
    | refine lp6' _ _ _ _  ?_ ?_ ?_ ?_ ?_
    | refine And.intro (fun h => absurd h (by decide)) (fun _ => ?_)
    | refine And.intro (fun _ => ?_) (fun h => absurd (by decide) h)
    | refine And.intro (fun _ => ?_) (fun _ => ?_)
    | refine And.intro ?_ ?_
  all_goals (first | decide | assumption | omega | rfl | (trace_state; fail))
theorem n_partOf {l : Launch} {μ : am_N} {Q : Option am_V → am_N → Prop} (A B w : Int) (cw : am_c w = w) (A0 : 0 ≤ A) (A1 : A ≤ 1000000) (B0 : 1 ≤ B) (B1 : B ≤ 1000000) (k : Q (some (.inr (.inl (fp_fr A B w)))) μ) : am_Does l 185 [.inr (.inl A), .inr (.inl B), .inl w] μ Q := by
  refine am_Does_of (Nat.le_of_ble_eq_true rfl) (Nat.le_of_ble_eq_true rfl) (Nat.le_of_ble_eq_true rfl) ?_
  have l0 : am_c 0 = 0 := rfl
  have l1 : am_c 1 = 1 := rfl
  have l2 : am_c 2 = 2 := rfl
  have l16 : am_c 16 = 16 := rfl
  have l62 : am_c 62 = 62 := rfl
  have l4096 : am_c 4096 = 4096 := rfl
  have dA : am_d A = A := fp_dR (by omega) (by omega)
  have dB : am_d B = B := fp_dR (by omega) (by omega)
  have gp := fp_gd_p (a := A) (b := B) (by omega)
  have gl := fp_gd_l (a := A) (b := B) (by omega)
  have dG : am_d (fp_gd A B) = fp_gd A B := fp_dR (by omega) (by omega)
  refine am_go (ct := fun _ => false) am_oX7_partOf 300 ?_
  conv => whnf
  repeat' first
    | (refine (?_ : am_wp _ _ _ _ _ _ _ _ _ _ _ _); conv => whnf)
    | (refine (?_ : am_sw _ _ _ _); conv => whnf)
    | refine And.intro trivial ?_
    | exact trivial
    | refine n_divisor _ _ A0 A1 B0 B1 ?_
    | refine am_qd k ?_
    | refine And.intro (fun h => absurd h (by decide)) (fun _ => ?_)
    | refine And.intro (fun _ => ?_) (fun h => absurd (by decide) h)
    | refine And.intro (fun _ => ?_) (fun _ => ?_)
    | refine And.intro ?_ ?_
  all_goals (first | decide | (rw [dG]; omega) | (unfold fp_fr; rw [dG]; first | (rw [if_pos (by simp only [cw, l0] at *; omega), dA]) | (rw [if_neg (by simp only [cw, l0] at *; omega), dB])) | (trace_state; fail))
def fp_lir (F : am_N) (i w : Int) : Int := if ¬(0 ≤ i ∧ i < F 0 4) then 4000000000000000001 else if ¬(w = 0 ∨ w = 1) then 4000000000000000002 else fp_fr (fp_lw F i.toNat) (fp_al2 F) w
theorem fp_al2_e {n : Int} (h0 : 0 ≤ n) (h1 : n ≤ 4) : ∃ t : Nat, am_shl 1 (2 * n) = ((2 ^ t : Nat) : Int) ∧ t ≤ 12 := by
  rcases (show n = 0 ∨ n = 1 ∨ n = 2 ∨ n = 3 ∨ n = 4 by omega) with rfl | rfl | rfl | rfl | rfl
  · exact ⟨0, by decide +kernel, by decide⟩
  · exact ⟨2, by decide +kernel, by decide⟩
  · exact ⟨4, by decide +kernel, by decide⟩
  · exact ⟨6, by decide +kernel, by decide⟩
  · exact ⟨8, by decide +kernel, by decide⟩
theorem s_likely {l : Launch} {ν : am_N} {Q : Option am_V → am_N → Prop} (i w : Int) (ci : am_c i = i) (cw : am_c w = w) (hS : sx ν ν) (hw : fp_fw 999 (fv ν 1)) (k : ∀ μ' : am_N, sx ν μ' → Q (some (.inr (.inl (fp_lir (fv ν 1) i w)))) μ') : am_Does l 69 [.inr (.inr 0), .inl i, .inl w] ν Q := by
  refine am_Does_of (Nat.le_of_ble_eq_true rfl) (Nat.le_of_ble_eq_true rfl) (Nat.le_of_ble_eq_true rfl) ?_
  have l0 : am_c 0 = 0 := rfl
  have l1 : am_c 1 = 1 := rfl
  have l2 : am_c 2 = 2 := rfl
  have l16 : am_c 16 = 16 := rfl
  have l62 : am_c 62 = 62 := rfl
  have l4096 : am_c 4096 = 4096 := rfl
  have m1' : am_c (-1) = -1 := rfl
  have m2' : am_c (-2) = -2 := rfl
  have m3' : am_c (-3) = -3 := rfl
  obtain ⟨hf, -, -, -, -, -, hx⟩ := fw_C hw (by decide)
  have f0 := hf.1.1
  have f1 := hf.1.2
  have e4 : fv ν 1 0 4 = ν 1 4 := fv_0 (by decide)
  have al := fp_al2_b f0 f1
  obtain ⟨t, et, ht⟩ := fp_al2_e f0 f1
  have kk := fun (x : Int) (μ' : am_N) (h : sx ν μ') (e : x = fp_lir (fv ν 1) i w) => am_qd (k μ' h) e
  have hs : ∀ q : Nat, (q : Int) < ν 1 4 → 0 ≤ ν 5 q ∧ ν 5 q ≤ 20 := fun q hq => (hx q hq).2.2.2
  have ea : fp_al2 (fv ν 1) = am_shl 1 (2 * ν 1 4) := by unfold fp_al2; rw [e4]
  have lw := fp_lw_b (F := (fv ν 1)) (by rw [e4]; exact f1) i.toNat
  have cl : am_c (fp_lw (fv ν 1) i.toNat) = fp_lw (fv ν 1) i.toNat := am_cR (by omega) (by omega)
  have cA : am_c (am_shl 1 (2 * ν 1 4)) = am_shl 1 (2 * ν 1 4) := am_cR (by omega) (by omega)
  refine am_go (ct := fun _ => false) am_oX6_likely 300 ?_
  conv => whnf
  repeat' first
    | (refine (?_ : am_wp _ _ _ _ _ _ _ _ _ _ _ _); conv => whnf)
    | (refine (?_ : am_sw _ _ _ _); conv => whnf)
    | refine And.intro trivial ?_
    | exact trivial
    | refine x_has1 _ f0 f1 (fun y0 y1 => ?_) (fun y => ?_)
    | refine x_refuseLong _ ?_ (fun μr fr => ?_)
    | refine x_noPart _ cw (fun z => ?_) (fun z => ?_)
    | (refine x_draw_1 hf hs (fun μ1 g1 d0 dr => ?_); have sE : sx ν μ1 := sx_dr hS (fun a b q2 q3 _ => g1 a b q2 q3) (by rw [d0]; exact ⟨f0, f1⟩); have hb := fp_rw_b (c := 1) hf hs d0 dr)
    | (refine x_ways i (by omega) (by rw [d0]; omega) (by rw [d0]; exact f1) hb ?_; rw [fp_lw_C1 f1 (by omega) d0 dr])
    | (refine s_allWays ?_; rw [d0])
    | (rw [cl, cA]; refine s_fraction _ _ _ t cw lw.1 (by omega) et ht (by omega) ?_; refine kk _ _ sE ?_)
    | refine kk _ _ (sx_78 hS fr) ?_
    | refine And.intro (fun h => absurd h (by decide)) (fun _ => ?_)
    | refine And.intro (fun _ => ?_) (fun h => absurd (by decide) h)
    | refine And.intro (fun _ => ?_) (fun _ => ?_)
    | refine And.intro ?_ ?_
  all_goals (first | decide | omega | (unfold fp_lir; rw [e4, if_pos (by omega)]; rfl) | (unfold fp_lir; rw [e4, if_neg (by omega), if_pos (by omega)]; rfl) | (unfold fp_lir; rw [e4, if_neg (by omega), if_neg (by omega), ea]) | (trace_state; fail))
theorem n_likely {l : Launch} {ν : am_N} {Q : Option am_V → am_N → Prop} (i w : Int) (ci : am_c i = i) (cw : am_c w = w) (hm : mi ν) (hw : fp_fw 999 (mv ν)) (k : ∀ μ' : am_N, gm ms ν μ' → Q (some (.inr (.inl (fp_lir (mv ν) i w)))) μ') : am_Does l 186 [.inr (.inr 83), .inl i, .inl w] ν Q := by
  refine am_Does_of (Nat.le_of_ble_eq_true rfl) (Nat.le_of_ble_eq_true rfl) (Nat.le_of_ble_eq_true rfl) ?_
  have l0 : am_c 0 = 0 := rfl
  have l1 : am_c 1 = 1 := rfl
  have l2 : am_c 2 = 2 := rfl
  have l16 : am_c 16 = 16 := rfl
  have l62 : am_c 62 = 62 := rfl
  have l4096 : am_c 4096 = 4096 := rfl
  have m1' : am_c (-1) = -1 := rfl
  have m2' : am_c (-2) = -2 := rfl
  have m3' : am_c (-3) = -3 := rfl
  obtain ⟨hf, -, -, -, -, -, hx⟩ := fw_M hw (by decide)
  have f0 := hf.1.1
  have f1 := hf.1.2
  have e4 : mv ν 0 4 = ν 83 14 := rfl
  have al := fp_al2_b f0 f1
  have kk := fun (x : Int) (μ' : am_N) (h : gm ms ν μ') (e : x = fp_lir (mv ν) i w) => am_qd (k μ' h) e
  have ea : fp_al2 (mv ν) = am_shl 1 (2 * ν 83 14) := rfl
  have lw := fp_lw_b (F := (mv ν)) f1 i.toNat
  have cl : am_c (fp_lw (mv ν) i.toNat) = fp_lw (mv ν) i.toNat := am_cR (by omega) (by omega)
  have cA : am_c (am_shl 1 (2 * ν 83 14)) = am_shl 1 (2 * ν 83 14) := am_cR (by omega) (by omega)
  refine am_go (ct := fun _ => false) am_oX7_likely 300 ?_
  conv => whnf
  repeat' first
    | (refine (?_ : am_wp _ _ _ _ _ _ _ _ _ _ _ _); conv => whnf)
    | (refine (?_ : am_sw _ _ _ _); conv => whnf)
    | refine And.intro trivial ?_
    | exact trivial
    | refine x_isRunnerT _ f0 f1 (fun y0 y1 => ?_) (fun y => ?_)
    | refine x_isIn w _ _ _ rfl cw ?_ ?_ (fun _ _ => ?_) (fun _ => ?_)
    | refine x_lowest _ ?_ (fun μr fr => ?_)
    | (refine n_findFirsts hm hw (fun μ1 h1 g1 v1 => ?_); have e14 : μ1 83 14 = ν 83 14 := h1.2 83 14 rfl; have w1 : μ1 104 (am_c i).toNat = fp_lw (mv ν) i.toNat := (by rw [ci]; exact v1 i.toNat (by omega)))
    | (refine n_races ?_; rw [e14])
    | (rw [w1, cl, cA]; refine n_partOf _ _ _ cw lw.1 (by omega) (by omega) (by omega) ?_; refine kk _ _ h1 ?_)
    | refine kk _ _ (mi_84 hm fr) ?_
    | refine And.intro (fun h => absurd h (by omega)) (fun _ => ?_)
    | refine And.intro (fun _ => ?_) (fun h => absurd h (by omega))
    | refine And.intro (fun h => absurd h (by decide)) (fun _ => ?_)
    | refine And.intro (fun _ => ?_) (fun h => absurd (by decide) h)
    | refine And.intro (fun _ => ?_) (fun _ => ?_)
    | refine And.intro ?_ ?_
  all_goals (first | decide | omega | (rw [ci]; omega) | (unfold fp_lir; rw [e4, if_pos (by omega)]; rfl) | (unfold fp_lir; rw [e4, if_neg (by omega), if_pos (by omega)]; rfl) | (unfold fp_lir; rw [e4, if_neg (by omega), if_neg (by omega), ea]) | (trace_state; fail))
