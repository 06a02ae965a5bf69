/-! races in mind -/
def fp_go (F : am_N) : Nat → am_N
  | 0 => F
  | k + 1 => fp_rn (fp_go F k)
/-- how many of them one wins -/
def fp_wn (F : am_N) (r : Int) : Nat → Int
  | 0 => 0
  | k + 1 => if fp_f (fp_go F k) = r then fp_wn F r k + 1 else fp_wn F r k
theorem fw_go {W : Int} {F : am_N} (h : fp_fw W F) : ∀ k : Nat, fp_fw (W + (k : Int)) (fp_go F k) := by
  intro k
  induction k with
  | zero => rw [show W + ((0 : Nat) : Int) = W by omega]; exact h
  | succ k ih => exact fw_rn ih (by omega)
theorem fp_go_n (F : am_N) : ∀ k : Nat, fp_go F k 0 4 = F 0 4 := by
  intro k
  induction k with
  | zero => rfl
  | succ k ih => exact Eq.trans (show fp_rn (fp_go F k) 0 4 = fp_go F k 0 4 from rfl) ih
theorem fp_rn_6 {F : am_N} {r : Nat} (hr : r < 4) : fp_rn F 6 r = if (r : Int) = fp_f F then F 6 r + 1 else F 6 r := by
  unfold fp_rn
  rw [fp_ct_i (fp_in_a (by decide) (by decide) hr)]
  unfold fp_rr
  rw [if_pos rfl]
theorem fp_go_6 {F : am_N} {r : Nat} (hr : r < 4) : ∀ k : Nat, fp_go F k 6 r = F 6 r + fp_wn F (r : Int) k := by
  intro k
  induction k with
  | zero => exact (Int.add_zero _).symm
  | succ k ih =>
    rw [show fp_go F (k + 1) 6 r = fp_rn (fp_go F k) 6 r from rfl, fp_rn_6 hr]
    simp only [fp_wn]
    by_cases d : fp_f (fp_go F k) = (r : Int)
    · rw [if_pos d.symm, if_pos d, ih]; omega
    · rw [if_neg (fun z => d z.symm), if_neg d, ih]
theorem fp_wn_b (F : am_N) (r : Int) : ∀ k : Nat, 0 ≤ fp_wn F r k ∧ fp_wn F r k ≤ (k : Int) := by
  intro k
  induction k with
  | zero => exact ⟨(by first | exact Int.le_refl 0 | (show (0 : Int) ≤ 1; decide) | (show (0 : Int) ≤ _; decide) | (show _ ≤ (0 : Int); decide) | (show (1 : Int) ≤ _; decide) | (show (0 : Int) < _; decide)), (by first | exact Int.le_refl 0 | (show (0 : Int) ≤ 1; decide) | (show (0 : Int) ≤ _; decide) | (show _ ≤ (0 : Int); decide) | (show (1 : Int) ≤ _; decide) | (show (0 : Int) < _; decide))⟩
  | succ k ih =>
    simp only [fp_wn]
    split <;> omega
/-- cells of the field are no scratch -/
theorem mQ_fld {a b : Nat} (h : ((85 ≤ a ∧ a ≤ 90) ∧ b < 4) ∨ (a = 83 ∧ 10 ≤ b ∧ b ≤ 14)) : mQ a b = false := by
  rcases h with ⟨h1, h2⟩ | ⟨rfl, h1, h2⟩
  · rcases (show a = 85 ∨ a = 86 ∨ a = 87 ∨ a = 88 ∨ a = 89 ∨ a = 90 by omega) with rfl | rfl | rfl | rfl | rfl | rfl <;> rcases (show b = 0 ∨ b = 1 ∨ b = 2 ∨ b = 3 by omega) with rfl | rfl | rfl | rfl <;> rfl
  · rcases (show b = 10 ∨ b = 11 ∨ b = 12 ∨ b = 13 ∨ b = 14 by omega) with rfl | rfl | rfl | rfl | rfl <;> rfl
theorem mv_mQ {ν μ : am_N} (h : ∀ a b, mQ a b = false → μ a b = ν a b) : mv μ = mv ν := mv_keep4 (fun a b q => h a b (mQ_fld q))
theorem gm_runs {μ μ' : am_N} (h : mi μ) (f : ∀ a b, a ≠ 89 → a ≠ 90 → ¬(a = 83 ∧ b = 11) → a ≠ 99 → a ≠ 100 → μ' a b = μ a b) (p : sx_3 μ' 100) : gm mM μ μ' := by
  refine ⟨?_, fun a b q => f a b (fun z => by rw [z] at q; cases q) (fun z => by rw [z] at q; cases q) (fun z => by rw [z.1, z.2] at q; cases q) (fun z => by rw [z] at q; cases q) (fun z => by rw [z] at q; cases q)⟩
  unfold mi at h ⊢
  have e : ∀ a b, a = 98 ∨ (a = 83 ∧ b ≠ 11) → μ' a b = μ a b := fun a b q => f a b (by omega) (by omega) (by omega) (by omega) (by omega)
  rw [e 83 14 (by omega), e 83 15 (by omega), e 83 16 (by omega), e 83 21 (by omega), e 83 33 (by omega), e 83 40 (by omega), e 83 42 (by omega), e 98 44 (by omega), e 98 38 (by omega), e 98 39 (by omega)]
  exact ⟨h.1, h.2.1, h.2.2.1, h.2.2.2.1, h.2.2.2.2.1, h.2.2.2.2.2.1, h.2.2.2.2.2.2.1, h.2.2.2.2.2.2.2.1, h.2.2.2.2.2.2.2.2.1, h.2.2.2.2.2.2.2.2.2.1, p⟩
theorem gm_84 {A : Nat → Nat → Bool} {ν μ : am_N} (hA : ∀ b, A 84 b = true) (h : mi ν) (f : ∀ a b, a ≠ 84 → μ a b = ν a b) : gm A ν μ := ⟨(mi_84 h f).1, fun a b q => f a b (fun z => by rw [z, hA] at q; cases q)⟩
theorem n_go_end {ν μ μ3 : am_N} {r k : Nat} (hr : r < 4) (h0 : MD mQ ν μ) (u1 : KPl 60 (am_up (am_up μ 83 37 (μ 90 r)) 83 38 (μ 89 r)) μ3) (hv : mv μ = fp_go (mv ν) k) : gm mQ ν (am_up μ3 83 37 (μ3 83 37 - μ3 90 r)) ∧ am_up μ3 83 37 (μ3 83 37 - μ3 90 r) 83 37 = fp_wn (mv ν) (r : Int) k ∧ am_up μ3 83 37 (μ3 83 37 - μ3 90 r) 83 38 = fp_go (mv ν) k 5 r := by
  have hD : MD mQ ν (am_up (am_up μ 83 37 (μ 90 r)) 83 38 (μ 89 r)) := md_up (md_up h0 rfl rfl) rfl rfl
  have hG : gm mQ ν μ3 := md_back hD u1 (fun _ _ q => q)
  have f37 : μ3 83 37 = μ 90 r := (u1.2 83 37 rfl (by omega)).trans ((am_upM (by decide)).trans (if_pos ⟨rfl, rfl⟩))
  have f38 : μ3 83 38 = μ 89 r := (u1.2 83 38 rfl (by omega)).trans (if_pos ⟨rfl, rfl⟩)
  have f90 : μ3 90 r = ν 90 r := hG.2 90 r (mQ_fld (Or.inl (by omega)))
  have w1 : μ 90 r = ν 90 r + fp_wn (mv ν) (r : Int) k := by
    have z := fp_go_6 (F := mv ν) (r := r) hr k
    rw [← hv, mv_6 hr, mv_6 hr] at z
    exact z
  have w2 : μ 89 r = fp_go (mv ν) k 5 r := by rw [← mv_5 (μ := μ) hr, hv]
  refine ⟨gm_up hG rfl rfl, ?_, ?_⟩
  · rw [am_upS, if_pos ⟨rfl, rfl⟩, f37, f90, w1]; omega
  · rw [am_upM (by decide), f38, w2]
/-- a field with one's kind, one's START other -/
def fp_kd (F : am_N) (i : Nat) (q : Int) : am_N := fp_ct (am_up F 1 i q)
def fp_sd (F : am_N) (i : Nat) (s : Int) : am_N := fp_ct (am_up F 5 i s)
theorem fw_kd {W : Int} {F : am_N} {i : Nat} {q : Int} (h : fp_fw W F) (hq : 0 ≤ q ∧ q ≤ 5) : fp_fw W (fp_kd F i q) := by
  refine fw_ct ?_
  obtain ⟨h0, h1, h2, h3, h4, h5, h6⟩ := h
  have e : ∀ a b : Nat, a ≠ 1 → am_up F 1 i q a b = F a b := fun a b z => am_upN z
  unfold fp_fw
  rw [e 0 0 (by decide), e 0 1 (by decide), e 0 2 (by decide), e 0 3 (by decide), e 0 4 (by decide)]
  refine ⟨h0, h1, h2, h3, h4, fun j hj => ?_, fun j hj => ?_⟩
  · rw [e 5 j (by decide)]; exact h5 j hj
  · rw [e 2 j (by decide), e 3 j (by decide), e 4 j (by decide)]
    obtain ⟨q1, q2, q3, q4⟩ := h6 j hj
    refine ⟨?_, q2, q3, q4⟩
    by_cases d : j = i
    · rw [am_upS, if_pos ⟨rfl, d⟩]; exact hq
    · rw [am_upM d]; exact q1
theorem fw_sd {W : Int} {F : am_N} {i : Nat} {s : Int} (h : fp_fw W F) (hs : 0 ≤ s ∧ s ≤ 99) : fp_fw W (fp_sd F i s) := fw_ct (fw_arr h (by decide) (fun _ => hs) (Or.inr (by decide)))
/-- a field but for one cell -/
theorem mv_but {ν μ : am_N} {a j : Nat} {v : Int} (ha : a < 6) (h : ∀ x b, mQ x b = false → ¬(x = 85 + a ∧ b = j) → μ x b = ν x b) : mv (am_up μ (85 + a) j v) = fp_ct (am_up (mv ν) (a + 1) j v) := by
  rw [mv_up]
  refine fp_ct_e (fun b hb => ?_) (fun x b q1 q2 hb => ?_)
  · rw [am_upN (by omega), am_upN (by omega), mv_0 hb, mv_0 hb]
    exact h 83 (10 + b) (mQ_fld (Or.inr (by omega))) (by omega)
  · by_cases d : x = a + 1 ∧ b = j
    · rw [am_upS, if_pos d, am_upS, if_pos d]
    · rw [am_uE d, am_uE d]
      obtain ⟨x, rfl⟩ : ∃ e, x = e + 1 := ⟨x - 1, by omega⟩
      rw [mv_a (by omega) hb, mv_a (by omega) hb]
      exact h (85 + x) b (mQ_fld (Or.inl (by omega))) (by omega)
/-- counted, and the least, upwards and downwards -/
def fq_cu (P : Nat → Bool) : Nat → Int
  | 0 => 0
  | t + 1 => bif P t then fq_cu P t + 1 else fq_cu P t
def fq_lu (P : Nat → Bool) : Nat → Int
  | 0 => -9
  | t + 1 => bif P t then (if fq_cu P t = 0 then (t : Int) else fq_lu P t) else fq_lu P t
def fq_cd (P : Nat → Bool) (N : Nat) : Nat → Int
  | 0 => 0
  | t + 1 => bif P (N - (t + 1)) then fq_cd P N t + 1 else fq_cd P N t
def fq_ld (P : Nat → Bool) (N : Nat) : Nat → Int
  | 0 => -9
  | t + 1 => bif P (N - (t + 1)) then ((N - (t + 1) : Nat) : Int) else fq_ld P N t
theorem fq_cu_b (P : Nat → Bool) : ∀ t : Nat, 0 ≤ fq_cu P t ∧ fq_cu P t ≤ (t : Int) := by
  intro t
  induction t with
  | zero => exact ⟨(by first | exact Int.le_refl 0 | (show (0 : Int) ≤ 1; decide) | (show (0 : Int) ≤ _; decide) | (show _ ≤ (0 : Int); decide) | (show (1 : Int) ≤ _; decide) | (show (0 : Int) < _; decide)), (by first | exact Int.le_refl 0 | (show (0 : Int) ≤ 1; decide) | (show (0 : Int) ≤ _; decide) | (show _ ≤ (0 : Int); decide) | (show (1 : Int) ≤ _; decide) | (show (0 : Int) < _; decide))⟩
  | succ t ih =>
    simp only [fq_cu]
    cases P t
    · exact ⟨ih.1, by show fq_cu P t ≤ _; omega⟩
    · exact ⟨by show 0 ≤ fq_cu P t + 1; omega, by show fq_cu P t + 1 ≤ _; omega⟩
theorem fq_cd_b (P : Nat → Bool) (N : Nat) : ∀ t : Nat, 0 ≤ fq_cd P N t ∧ fq_cd P N t ≤ (t : Int) := by
  intro t
  induction t with
  | zero => exact ⟨(by first | exact Int.le_refl 0 | (show (0 : Int) ≤ 1; decide) | (show (0 : Int) ≤ _; decide) | (show _ ≤ (0 : Int); decide) | (show (1 : Int) ≤ _; decide) | (show (0 : Int) < _; decide)), (by first | exact Int.le_refl 0 | (show (0 : Int) ≤ 1; decide) | (show (0 : Int) ≤ _; decide) | (show _ ≤ (0 : Int); decide) | (show (1 : Int) ≤ _; decide) | (show (0 : Int) < _; decide))⟩
  | succ t ih =>
    simp only [fq_cd]
    cases P (N - (t + 1))
    · exact ⟨ih.1, by show fq_cd P N t ≤ _; omega⟩
    · exact ⟨by show 0 ≤ fq_cd P N t + 1; omega, by show fq_cd P N t + 1 ≤ _; omega⟩
theorem fq_lu_0 (P : Nat → Bool) : ∀ t : Nat, fq_cu P t = 0 → fq_lu P t = -9 := by
  intro t
  induction t with
  | zero => intro _; rfl
  | succ t ih =>
    have b := fq_cu_b P t
    simp only [fq_cu, fq_lu]
    cases P t
    · exact ih
    · intro h
      exfalso
      have h : fq_cu P t + 1 = 0 := h
      omega
theorem fq_c (P : Nat → Bool) (N : Nat) : ∀ t : Nat, t ≤ N → fq_cu P t + fq_cd P N (N - t) = fq_cd P N N := by
  intro t
  induction t with
  | zero => intro _; exact Int.zero_add _
  | succ t ih =>
    intro ht
    rw [← ih (by omega), show N - t = (N - (t + 1)) + 1 by omega]
    simp only [fq_cu, fq_cd]
    rw [show N - (N - (t + 1) + 1) = t by omega]
    cases P t
    · rfl
    · show fq_cu P t + 1 + fq_cd P N (N - (t + 1)) = fq_cu P t + (fq_cd P N (N - (t + 1)) + 1)
      omega
theorem fq_c_N (P : Nat → Bool) (N : Nat) : fq_cd P N N = fq_cu P N := by
  have h := fq_c P N N (Nat.le_refl _)
  rw [Nat.sub_self] at h
  rw [← h]
  exact Int.add_zero _
theorem fq_l (P : Nat → Bool) (N : Nat) : ∀ t : Nat, t ≤ N → (if fq_cu P t = 0 then fq_ld P N (N - t) else fq_lu P t) = fq_ld P N N := by
  intro t
  induction t with
  | zero => intro _; exact if_pos rfl
  | succ t ih =>
    intro ht
    have b := fq_cu_b P t
    rw [← ih (by omega), show N - t = (N - (t + 1)) + 1 by omega]
    simp only [fq_cu, fq_lu, fq_ld]
    rw [show N - (N - (t + 1) + 1) = t by omega]
    rcases Bool.eq_false_or_eq_true (P t) with d | d
    · simp only [d, cond_true]
      rw [if_neg (by omega)]
    · simp only [d, cond_false]
theorem fq_l_N (P : Nat → Bool) (N : Nat) : fq_ld P N N = fq_lu P N := by
  have h := fq_l P N N (Nat.le_refl _)
  rw [Nat.sub_self] at h
  rw [← h]
  by_cases d : fq_cu P N = 0
  · rw [if_pos d, fq_lu_0 P N d]; rfl
  · rw [if_neg d]
/-- a down step -/
theorem fq_dn {P : Nat → Bool} {s : Int} (h0 : 0 ≤ s) (h1 : s ≤ 99) : fq_cd P 100 (99 - (s + -1)).toNat = (bif P s.toNat then fq_cd P 100 (99 - s).toNat + 1 else fq_cd P 100 (99 - s).toNat) ∧ fq_ld P 100 (99 - (s + -1)).toNat = (bif P s.toNat then s else fq_ld P 100 (99 - s).toNat) := by
  rw [show (99 - (s + -1)).toNat = (99 - s).toNat + 1 by omega]
  simp only [fq_cd, fq_ld]
  rw [show 100 - ((99 - s).toNat + 1) = s.toNat by omega, Int.toNat_of_nonneg h0]
  exact ⟨rfl, rfl⟩
/-- the answers of on(), pays(), had() -/
def fp_onr (F : am_N) (i n w : Int) : Int := if ¬(0 ≤ i ∧ i < F 0 4) then -1 else if n < 0 then -4 else if 60 < n then -6 else if ¬(w = 0 ∨ w = 1) then -2 else if w = 0 then fp_go F n.toNat 5 i.toNat else fp_wn F i n.toNat
def fp_pyr (F : am_N) (i n : Int) : Int := if ¬(0 ≤ i ∧ i < F 0 4) then 1000000001 else if n < 0 then 1000000004 else if 60 < n then 1000000006 else fp_wn (fp_kd F i.toNat 3) i n.toNat - fp_wn (fp_kd F i.toNat 0) i n.toNat
def fp_hp (F : am_N) (i n g : Int) : Nat → Bool := fun s => decide (fp_wn (fp_sd F i.toNat (s : Int)) i n.toNat = g)
def fp_hdr (F : am_N) (i n g w : Int) : Int := if ¬(0 ≤ i ∧ i < F 0 4) then -1 else if n < 0 ∨ g < 0 then -4 else if 60 < n ∨ n < g then -6 else if ¬(w = 0 ∨ w = 1) then -2 else if w = 0 then fq_cu (fp_hp F i n g) 100 else fq_lu (fp_hp F i n g) 100
theorem s_winsIn {l : Launch} {ν : am_N} {Q : Option am_V → am_N → Prop} (r n : Int) (cr : am_c r = r) (cn : am_c n = n) (hw : fp_fw 999 (fv ν 8)) (n0 : 0 ≤ n) (n1 : n ≤ 60) (h1 : 1 ≤ ν 8 4) (hp : sx_3 ν 34) (hb : 0 ≤ ν 29 0 ∧ ν 29 0 ≤ 4) (k : ∀ μ' : am_N, (∀ a b, ¬(8 ≤ a ∧ a < 15) → a ≠ 33 → a ≠ 34 → ¬(a = 29 ∧ b = 0) → μ' a b = ν a b) → fv μ' 8 = fp_go (fv ν 8) n.toNat → sx_3 μ' 34 → (0 ≤ μ' 29 0 ∧ μ' 29 0 ≤ 4) → Q (some (.inl (fp_wn (fv ν 8) r n.toNat))) μ') : am_Does l 125 [.inr (.inr 0), .inl r, .inl n] ν Q := by
  refine am_Does_of (Nat.le_of_ble_eq_true rfl) (Nat.le_of_ble_eq_true rfl) (Nat.le_of_ble_eq_true rfl) ?_
  have h4 := (fw_C hw (by decide)).1.1
  have kk := fun (x : Int) (μ' : am_N) a1 a2 a3 a4 (e : x = fp_wn (fv ν 8) r n.toNat) => am_qe (k μ' a1 a2 a3 a4) e
  have lp5 : ∀ (m : Nat) (w i : Int) (μ : am_N) , (∀ a b, ¬(8 ≤ a ∧ a < 15) → a ≠ 33 → a ≠ 34 → ¬(a = 29 ∧ b = 0) → μ a b = ν a b) → fv μ 8 = fp_go (fv ν 8) i.toNat → 0 ≤ i → i ≤ n → w = fp_wn (fv ν 8) r i.toNat → sx_3 μ 34 → (0 ≤ μ 29 0 ∧ μ 29 0 ≤ 4) → n - i < (m : Int) → am_AW l 0 (fun _ => 0) 125 Q 5 [some (.inr (.inr 0)), some (.inl r), some (.inl n), some (.inl w), some (.inl i)] [] μ := by
    intro m
    induction m with
    | zero =>
      intro w i μ hv0 hv1 hv2 hv3 hv4 hv5 hv6 hm
      exfalso
      omega
    | succ m ih =>
      intro w i μ hv0 hv1 hv2 hv3 hv4 hv5 hv6 hm
      have ci : am_c i = i := am_cR (by omega) (by omega)
      have h8 : fp_fw 1059 (fv μ 8) := by rw [hv1]; exact fw_mono (fw_go hw i.toNat) (by omega)
      have n8 : μ 8 4 = ν 8 4 := by rw [← fv_0 (μ := μ) (c := 8) (b := 4) (by decide), hv1, fp_go_n]; exact fv_0 (by decide)
      have fb := fp_f_b (fv μ 8)
      have cf : am_c (fp_f (fv μ 8)) = fp_f (fv μ 8) := am_cR (by omega) (by omega)
      refine am_go (ct := fun pc => Nat.beq pc 5) am_oX6_winsIn 300 ?_
      conv => whnf
      repeat' first
        | (refine (?_ : am_wp _ _ _ _ _ _ _ _ _ _ _ _); conv => whnf)
        | (refine (?_ : am_sw _ _ _ _); conv => whnf)
        | refine And.intro trivial ?_
        | exact trivial
        | (refine x_goOn_29_8 1059 h8 (by decide) (by omega) hv5 (fun μ2 g2 p2 b2 n2 _ _ => ?_))
        | refine kk _ _ hv0 ?_ hv5 hv6 ?_
        | refine ih _ _ _ ?_ ?_ ?_ ?_ ?_ ?_ ?_ ?_
        | refine And.intro (fun h => absurd h (by decide)) (fun _ => ?_)
        | refine And.intro (fun _ => ?_) (fun h => absurd (by decide) h)
        | refine And.intro (fun _ => ?_) (fun _ => ?_)
        | refine And.intro ?_ ?_
      all_goals (first | decide | assumption | omega | (intro a b q1 q2 q3 q4; rw [g2 a b (by omega) (by omega) (by omega) q2 q3 q4]; exact hv0 a b q1 q2 q3 q4) | (rw [show (i + 1).toNat = i.toNat + 1 by omega, p2, hv1]; rfl) | (rw [show (i + 1).toNat = i.toNat + 1 by omega]; simp only [fp_wn]; rw [← hv1, hv4]; first | (rw [if_pos (by simp only [cf, cr] at *; omega)]) | (rw [if_neg (by simp only [cf, cr] at *; omega)])) | (rw [n2, n8]; omega) | (rw [hv1, show i.toNat = n.toNat by simp only [ci, cn] at *; omega]) | (rw [hv4, show i.toNat = n.toNat by simp only [ci, cn] at *; omega]) | (trace_state; fail))
  have lp5' : ∀ (w i : Int) (μ : am_N) , (∀ a b, ¬(8 ≤ a ∧ a < 15) → a ≠ 33 → a ≠ 34 → ¬(a = 29 ∧ b = 0) → μ a b = ν a b) → fv μ 8 = fp_go (fv ν 8) i.toNat → 0 ≤ i → i ≤ n → w = fp_wn (fv ν 8) r i.toNat → sx_3 μ 34 → (0 ≤ μ 29 0 ∧ μ 29 0 ≤ 4) → am_AW l 0 (fun _ => 0) 125 Q 5 [some (.inr (.inr 0)), some (.inl r), some (.inl n), some (.inl w), some (.inl i)] [] μ := fun w i μ hv0 hv1 hv2 hv3 hv4 hv5 hv6 => lp5 ((n - i) + 1).toNat w i μ hv0 hv1 hv2 hv3 hv4 hv5 hv6 (by omega)
  refine am_go (ct := fun pc => Nat.beq pc 5) am_oX6_winsIn 300 ?_
  conv => whnf
  repeat' first
    | (refine (?_ : am_wp _ _ _ _ _ _ _ _ _ _ _ _); conv => whnf)
    | (refine (?_ : am_sw _ _ _ _); conv => whnf)
    | refine And.intro trivial ?_
    | exact trivial
    | refine lp5' _ _ _ ?_ ?_ ?_ ?_ ?_ ?_ ?_
    | refine And.intro (fun h => absurd h (by decide)) (fun _ => ?_)
    | refine And.intro (fun _ => ?_) (fun h => absurd (by decide) h)
    | refine And.intro (fun _ => ?_) (fun _ => ?_)
    | refine And.intro ?_ ?_
  all_goals (first | decide | assumption | omega | rfl | (intros; rfl) | (trace_state; fail))
theorem n_goesOn {l : Launch} {ν : am_N} {Q : Option am_V → am_N → Prop} (n r : Int) (cr : am_c r = r) (cn : am_c n = n) (hm : mi ν) (hw : fp_fw 999 (mv ν)) (n0 : 0 ≤ n) (n1 : n ≤ 60) (r0 : 0 ≤ r) (r1 : r < ν 83 14) (k : ∀ μ' : am_N, gm mQ ν μ' → μ' 83 37 = fp_wn (mv ν) r n.toNat → μ' 83 38 = fp_go (mv ν) n.toNat 5 r.toNat → Q none μ') : am_Does l 199 [.inr (.inr 83), .inl n, .inl r] ν Q := by
  refine am_Does_of (Nat.le_of_ble_eq_true rfl) (Nat.le_of_ble_eq_true rfl) (Nat.le_of_ble_eq_true rfl) ?_
  have h4 := (fw_M hw (by decide)).1.1
  have e4 : mv ν 0 4 = ν 83 14 := rfl
  have er : (am_c r).toNat = r.toNat := by rw [cr]
  have lp8 : ∀ (m : Nat) (i : Int) (μ : am_N) , MD mQ ν μ → mv μ = fp_go (mv ν) i.toNat → 0 ≤ i → i ≤ n → n - i < (m : Int) → am_AW l 0 (fun _ => 0) 199 Q 8 [some (.inr (.inr 83)), some (.inl n), some (.inl r), some (.inl i)] [] μ := by
    intro m
    induction m with
    | zero =>
      intro i μ hv0 hv1 hv2 hv3 hm
      exfalso
      omega
    | succ m ih =>
      intro i μ hv0 hv1 hv2 hv3 hm
      have ci : am_c i = i := am_cR (by omega) (by omega)
      have h8 : fp_fw 1059 (mv μ) := by rw [hv1]; exact fw_mono (fw_go hw i.toNat) (by omega)
      have n8 : μ 83 14 = ν 83 14 := by rw [← mv_n (μ := μ), hv1, fp_go_n]; rfl
      have hmi := md_i hv0
      refine am_go (ct := fun pc => Nat.beq pc 8) am_oX7_goesOn 300 ?_
      conv => whnf
      repeat' first
        | (refine (?_ : am_wp _ _ _ _ _ _ _ _ _ _ _ _); conv => whnf)
        | (refine (?_ : am_sw _ _ _ _); conv => whnf)
        | refine And.intro trivial ?_
        | exact trivial
        | (refine x_runs 1059 h8 (by decide) (by omega) (fun p hp => mi_or hmi p hp) (fun μ2 g2 p2 b2 _ _ => ?_))
        | (have ie : i.toNat = n.toNat := (by simp only [ci, cn] at *; omega); refine m_come1 (fun μ3 u1 _ _ _ => ?_); have hE := n_go_end (r := (am_c r).toNat) (k := n.toNat) (by rw [er]; omega) hv0 u1 (hv1.trans (by rw [ie])); have w1 := hE.2.1.trans (show fp_wn (mv ν) (((am_c r).toNat : Nat) : Int) n.toNat = fp_wn (mv ν) r n.toNat by rw [er, Int.toNat_of_nonneg r0]); have w2 := hE.2.2.trans (show fp_go (mv ν) n.toNat 5 (am_c r).toNat = fp_go (mv ν) n.toNat 5 r.toNat by rw [er]))
        | exact k _ hE.1 w1 w2
        | (refine m_keep1 (fun μ1 u1 _ _ _ => ?_); have hD : MD mQ ν μ1 := md_start (gm_rf hm) u1; have p1 : mv μ1 = mv ν := mv_keep (fun a b q => u1.2 a b (by omega) (by omega)))
        | refine ih _ _ ?_ ?_ ?_ ?_ ?_
        | refine And.intro (fun h => absurd h (by decide)) (fun _ => ?_)
        | refine And.intro (fun _ => ?_) (fun h => absurd (by decide) h)
        | refine And.intro (fun _ => ?_) (fun _ => ?_)
        | refine And.intro ?_ ?_
      all_goals (first | decide | assumption | omega | exact md_tr hv0 (gm_runs hmi g2 b2) (fun _ _ q => q) | (rw [show (i + 1).toNat = i.toNat + 1 by omega, p2, hv1]; rfl) | (rw [cr]; omega) | (rw [am_upS, if_pos ⟨rfl, rfl⟩, f37, f90, w1]; omega) | (rw [am_upM (by decide), f38, w2]) | (trace_state; fail))
  have lp8' : ∀ (i : Int) (μ : am_N) , MD mQ ν μ → mv μ = fp_go (mv ν) i.toNat → 0 ≤ i → i ≤ n → am_AW l 0 (fun _ => 0) 199 Q 8 [some (.inr (.inr 83)), some (.inl n), some (.inl r), some (.inl i)] [] μ := fun i μ hv0 hv1 hv2 hv3 => lp8 ((n - i) + 1).toNat i μ hv0 hv1 hv2 hv3 (by omega)
  refine am_go (ct := fun pc => Nat.beq pc 8) am_oX7_goesOn 300 ?_
  conv => whnf
  repeat' first
    | (refine (?_ : am_wp _ _ _ _ _ _ _ _ _ _ _ _); conv => whnf)
    | (refine (?_ : am_sw _ _ _ _); conv => whnf)
    | refine And.intro trivial ?_
    | exact trivial
    | (refine m_keep1 (fun μ1 u1 _ _ _ => ?_); have hD : MD mQ ν μ1 := md_start (gm_rf hm) u1; have p1 : mv μ1 = mv ν := mv_keep (fun a b q => u1.2 a b (by omega) (by omega)))
    | refine lp8' _ _ ?_ ?_ ?_ ?_
    | refine And.intro (fun h => absurd h (by decide)) (fun _ => ?_)
    | refine And.intro (fun _ => ?_) (fun h => absurd (by decide) h)
    | refine And.intro (fun _ => ?_) (fun _ => ?_)
    | refine And.intro ?_ ?_
  all_goals (first | decide | assumption | omega | exact hD | exact p1 | (trace_state; fail))
theorem s_on {l : Launch} {ν : am_N} {Q : Option am_V → am_N → Prop} (i n w : Int) (ci : am_c i = i) (cn : am_c n = n) (cw : am_c w = w) (hS : sx ν ν) (hw : fp_fw 999 (fv ν 1)) (k : ∀ μ' : am_N, sx ν μ' → Q (some (.inl (fp_onr (fv ν 1) i n w))) μ') : am_Does l 76 [.inr (.inr 0), .inl i, .inl n, .inl w] ν Q := by
  refine am_Does_of (Nat.le_of_ble_eq_true rfl) (Nat.le_of_ble_eq_true rfl) (Nat.le_of_ble_eq_true rfl) ?_
  have l0 : am_c 0 = 0 := rfl
  have l1 : am_c 1 = 1 := rfl
  have l2 : am_c 2 = 2 := rfl
  have l3 : am_c 3 = 3 := rfl
  have l60 : am_c 60 = 60 := rfl
  have l99 : am_c 99 = 99 := rfl
  have m1' : am_c (-1) = -1 := rfl
  have m2' : am_c (-2) = -2 := rfl
  have m3' : am_c (-3) = -3 := rfl
  have m4' : am_c (-4) = -4 := rfl
  have m6' : am_c (-6) = -6 := rfl
  have m9' : am_c (-9) = -9 := rfl
  obtain ⟨hf, -, -, -, -, -, -⟩ := fw_C hw (by decide)
  have f0 := hf.1.1
  have f1 := hf.1.2
  have e4 : fv ν 1 0 4 = ν 1 4 := fv_0 (by decide)
  have h15 := hS.2.2.2.1
  have kk := fun (x : Int) (μ' : am_N) (h : sx ν μ') (e : x = fp_onr (fv ν 1) i n w) => am_qe (k μ' h) e
  refine am_go (ct := fun _ => false) am_oX6_on 300 ?_
  conv => whnf
  repeat' first
    | (refine (?_ : am_wp _ _ _ _ _ _ _ _ _ _ _ _); conv => whnf)
    | (refine (?_ : am_sw _ _ _ _); conv => whnf)
    | refine And.intro trivial ?_
    | exact trivial
    | refine x_has1 _ f0 f1 (fun y0 y1 => ?_) (fun y => ?_)
    | refine x_refuse _ ?_ (fun μr fr => ?_)
    | refine x_noPart _ cw (fun z => ?_) (fun z => ?_)
    | (refine x_take_8_1 (fun μ1 g1 s1 r1 => ?_); have p1 : fv μ1 8 = fv ν 1 := fv_tk s1 r1; have n8 : μ1 8 4 = ν 1 4 := s1 4 (by decide))
    | (refine s_winsIn _ _ ci cn (by rw [p1]; exact hw) (by omega) (by omega) (by rw [n8]; omega) (fun p hp => by rw [g1 34 p (by omega)]; exact hS.2.1 p hp) (by rw [g1 29 0 (by omega)]; exact h15.2.2.1) (fun μ2 g2 p2 b2 z2 => ?_); have sE : sx ν μ2 := sx_lt hS (fun a b q1 q2 q3 q4 _ => (g2 a b q1 q2 q3 q4).trans (g1 a b q1)) b2 (by rw [show μ2 8 4 = ν 1 4 by rw [← fv_0 (μ := μ2) (c := 8) (b := 4) (by decide), p2, fp_go_n, p1]; exact fv_0 (by decide)]; omega) z2)
    | refine kk _ _ sE ?_
    | refine kk _ _ (sx_78 hS fr) ?_
    | refine And.intro (fun h => absurd h (by decide)) (fun _ => ?_)
    | refine And.intro (fun _ => ?_) (fun h => absurd (by decide) h)
    | refine And.intro (fun _ => ?_) (fun _ => ?_)
    | refine And.intro ?_ ?_
  all_goals (first | decide | omega | (rw [ci]; omega) | (unfold fp_onr; rw [e4, if_pos (by omega)]; done) | (unfold fp_onr; rw [e4, if_neg (by omega), if_pos (by omega)]; done) | (unfold fp_onr; rw [e4, if_neg (by omega), if_neg (by omega), if_pos (by omega)]; done) | (unfold fp_onr; rw [e4, if_neg (by omega), if_neg (by omega), if_neg (by omega), if_pos (by omega)]; done) | (unfold fp_onr; rw [e4, if_neg (by omega), if_neg (by omega), if_neg (by omega), if_neg (by omega), if_pos (by omega), ci, ← p1, ← p2]; exact (fv_a (c := 8) (a := 5) (by decide) (by decide) (by omega)).symm) | (unfold fp_onr; rw [e4, if_neg (by omega), if_neg (by omega), if_neg (by omega), if_neg (by omega), if_neg (by omega), ← p1]) | (trace_state; fail))
theorem n_on {l : Launch} {ν : am_N} {Q : Option am_V → am_N → Prop} (i n w : Int) (ci : am_c i = i) (cn : am_c n = n) (cw : am_c w = w) (hm : mi ν) (hw : fp_fw 999 (mv ν)) (k : ∀ μ' : am_N, gm mQ ν μ' → Q (some (.inl (fp_onr (mv ν) i n w))) μ') : am_Does l 200 [.inr (.inr 83), .inl i, .inl n, .inl w] ν Q := by
  refine am_Does_of (Nat.le_of_ble_eq_true rfl) (Nat.le_of_ble_eq_true rfl) (Nat.le_of_ble_eq_true rfl) ?_
  have l0 : am_c 0 = 0 := rfl
  have l1 : am_c 1 = 1 := rfl
  have l2 : am_c 2 = 2 := rfl
  have l3 : am_c 3 = 3 := rfl
  have l60 : am_c 60 = 60 := rfl
  have l99 : am_c 99 = 99 := rfl
  have m1' : am_c (-1) = -1 := rfl
  have m2' : am_c (-2) = -2 := rfl
  have m3' : am_c (-3) = -3 := rfl
  have m4' : am_c (-4) = -4 := rfl
  have m6' : am_c (-6) = -6 := rfl
  have m9' : am_c (-9) = -9 := rfl
  obtain ⟨hf, -, -, -, -, -, -⟩ := fw_M hw (by decide)
  have f0 := hf.1.1
  have f1 := hf.1.2
  have e4 : mv ν 0 4 = ν 83 14 := rfl
  have kk := fun (x : Int) (μ' : am_N) (h : gm mQ ν μ') (e : x = fp_onr (mv ν) i n w) => am_qe (k μ' h) e
  refine am_go (ct := fun _ => false) am_oX7_on 300 ?_
  conv => whnf
  repeat' first
    | (refine (?_ : am_wp _ _ _ _ _ _ _ _ _ _ _ _); conv => whnf)
    | (refine (?_ : am_sw _ _ _ _); conv => whnf)
    | refine And.intro trivial ?_
    | exact trivial
    | refine x_isRunnerT _ f0 f1 (fun y0 y1 => ?_) (fun y => ?_)
    | refine x_bound _ _ _ ?_ ?_ ?_ (fun _ => ?_) (fun _ => ?_) (fun _ _ => ?_)
    | refine x_isIn w _ _ _ rfl cw ?_ ?_ (fun _ _ => ?_) (fun _ => ?_)
    | refine x_no _ ?_ (fun μr fr => ?_)
    | refine n_goesOn _ _ ci cn hm hw (by omega) (by omega) (by omega) (by omega) (fun μ2 h2 f37 f38 => ?_)
    | refine And.intro (fun h => absurd h (by omega)) (fun _ => ?_)
    | refine And.intro (fun _ => ?_) (fun h => absurd h (by omega))
    | refine kk _ _ h2 ?_
    | refine kk _ _ (gm_84 (fun _ => rfl) hm fr) ?_
    | refine And.intro (fun h => absurd h (by decide)) (fun _ => ?_)
    | refine And.intro (fun _ => ?_) (fun h => absurd (by decide) h)
    | refine And.intro (fun _ => ?_) (fun _ => ?_)
    | refine And.intro ?_ ?_
  all_goals (first | decide | omega | (unfold fp_onr; rw [e4, if_pos (by omega)]; done) | (unfold fp_onr; rw [e4, if_neg (by omega), if_pos (by omega)]; done) | (unfold fp_onr; rw [e4, if_neg (by omega), if_neg (by omega), if_pos (by omega)]; done) | (unfold fp_onr; rw [e4, if_neg (by omega), if_neg (by omega), if_neg (by omega), if_pos (by omega)]; done) | (unfold fp_onr; rw [e4, if_neg (by omega), if_neg (by omega), if_neg (by omega), if_neg (by omega), if_pos (by omega)]; exact f38) | (unfold fp_onr; rw [e4, if_neg (by omega), if_neg (by omega), if_neg (by omega), if_neg (by omega), if_neg (by omega)]; exact f37) | (trace_state; fail))
theorem s_winsAs {l : Launch} {ν : am_N} {Q : Option am_V → am_N → Prop} (g i n : Int) (ci : am_c i = i) (cn : am_c n = n) (hw : fp_fw 999 (fv ν 1)) (hg : 0 ≤ g ∧ g ≤ 5) (i0 : 0 ≤ i) (i1 : i < ν 1 4) (n0 : 0 ≤ n) (n1 : n ≤ 60) (hp : sx_3 ν 34) (hb : 0 ≤ ν 29 0 ∧ ν 29 0 ≤ 4) (k : ∀ μ' : am_N, (∀ a b, ¬(8 ≤ a ∧ a < 15) → a ≠ 33 → a ≠ 34 → ¬(a = 29 ∧ b = 0) → μ' a b = ν a b) → μ' 8 4 = ν 1 4 → sx_3 μ' 34 → (0 ≤ μ' 29 0 ∧ μ' 29 0 ≤ 4) → Q (some (.inl (fp_wn (fp_kd (fv ν 1) i.toNat g) i n.toNat))) μ') : am_Does l 126 [.inr (.inr 0), .inl g, .inl i, .inl n] ν Q := by
  refine am_Does_of (Nat.le_of_ble_eq_true rfl) (Nat.le_of_ble_eq_true rfl) (Nat.le_of_ble_eq_true rfl) ?_
  have h4 := (fw_C hw (by decide)).1.1
  have kk := fun (x : Int) (μ' : am_N) a1 a2 a3 a4 (e : x = fp_wn (fp_kd (fv ν 1) i.toNat g) i n.toNat) => am_qe (k μ' a1 a2 a3 a4) e
  refine am_go (ct := fun _ => false) am_oX6_winsAs 300 ?_
  conv => whnf
  repeat' first
    | (refine (?_ : am_wp _ _ _ _ _ _ _ _ _ _ _ _); conv => whnf)
    | (refine (?_ : am_sw _ _ _ _); conv => whnf)
    | refine And.intro trivial ?_
    | exact trivial
    | (refine x_take_8_1 (fun μ1 g1 s1 r1 => ?_); have p1 : fv μ1 8 = fv ν 1 := fv_tk s1 r1; have n8 : μ1 8 4 = ν 1 4 := s1 4 (by decide))
    | (have p2 : fv (am_up μ1 9 (am_c i).toNat g) 8 = (fp_kd (fv ν 1) i.toNat g) := (by rw [ci, show fv (am_up μ1 9 i.toNat g) 8 = fp_ct (am_up (fv μ1 8) 1 i.toNat g) from fv_up (c := 8) (a := 1) (by decide), p1]; rfl); have fr8 : ∀ a b, ¬(8 ≤ a ∧ a < 15) → am_up μ1 9 (am_c i).toNat g a b = μ1 a b := (fun a b q => am_upN (by omega)); refine s_winsIn _ _ ci cn (by rw [p2]; exact fw_kd hw hg) n0 n1 (by rw [am_upN (by decide), n8]; omega) (fun p hp2 => by rw [am_upN (by decide), g1 34 p (by omega)]; exact hp p hp2) (by rw [am_upN (by decide), g1 29 0 (by omega)]; exact hb) (fun μ2 g2 q2 b2 z2 => ?_))
    | refine kk _ _ ?_ ?_ b2 z2 ?_
    | refine And.intro (fun h => absurd h (by decide)) (fun _ => ?_)
    | refine And.intro (fun _ => ?_) (fun h => absurd (by decide) h)
    | refine And.intro (fun _ => ?_) (fun _ => ?_)
    | refine And.intro ?_ ?_
  all_goals (first | decide | omega | (rw [ci]; omega) | (intro a b q1 q3 q4 q5; exact (g2 a b q1 q3 q4 q5).trans ((fr8 a b q1).trans (g1 a b q1))) | (rw [← fv_0 (μ := μ2) (c := 8) (b := 4) (by decide), q2, fp_go_n, p2]; exact fv_0 (c := 1) (by decide)) | (rw [p2]) | (trace_state; fail))
theorem s_pays {l : Launch} {ν : am_N} {Q : Option am_V → am_N → Prop} (i n : Int) (ci : am_c i = i) (cn : am_c n = n) (hS : sx ν ν) (hw : fp_fw 999 (fv ν 1)) (k : ∀ μ' : am_N, sx ν μ' → Q (some (.inl (fp_pyr (fv ν 1) i n))) μ') : am_Does l 79 [.inr (.inr 0), .inl i, .inl n] ν Q := by
  refine am_Does_of (Nat.le_of_ble_eq_true rfl) (Nat.le_of_ble_eq_true rfl) (Nat.le_of_ble_eq_true rfl) ?_
  have l0 : am_c 0 = 0 := rfl
  have l1 : am_c 1 = 1 := rfl
  have l2 : am_c 2 = 2 := rfl
  have l3 : am_c 3 = 3 := rfl
  have l60 : am_c 60 = 60 := rfl
  have l99 : am_c 99 = 99 := rfl
  have m1' : am_c (-1) = -1 := rfl
  have m2' : am_c (-2) = -2 := rfl
  have m3' : am_c (-3) = -3 := rfl
  have m4' : am_c (-4) = -4 := rfl
  have m6' : am_c (-6) = -6 := rfl
  have m9' : am_c (-9) = -9 := rfl
  obtain ⟨hf, -, -, -, -, -, -⟩ := fw_C hw (by decide)
  have f0 := hf.1.1
  have f1 := hf.1.2
  have e4 : fv ν 1 0 4 = ν 1 4 := fv_0 (by decide)
  have h15 := hS.2.2.2.1
  have kk := fun (x : Int) (μ' : am_N) (h : sx ν μ') (e : x = fp_pyr (fv ν 1) i n) => am_qe (k μ' h) e
  refine am_go (ct := fun _ => false) am_oX6_pays 300 ?_
  conv => whnf
  repeat' first
    | (refine (?_ : am_wp _ _ _ _ _ _ _ _ _ _ _ _); conv => whnf)
    | (refine (?_ : am_sw _ _ _ _); conv => whnf)
    | refine And.intro trivial ?_
    | exact trivial
    | refine x_has1 _ f0 f1 (fun y0 y1 => ?_) (fun y => ?_)
    | refine x_refuseHigh _ ?_ (fun μr fr => ?_)
    | (have _q := g1; have eF : fv μ1 1 = fv ν 1 := fv_keep (fun a b q1 q2 => g1 a b (by omega) (by omega) (by omega) (by omega)); have e14 : μ1 1 4 = ν 1 4 := g1 1 4 (by omega) (by omega) (by omega) (by omega); refine s_winsAs _ _ _ ci cn (by rw [eF]; exact hw) (by decide) (by omega) (by rw [e14]; omega) (by omega) (by omega) b1 z1 (fun μ2 g2 n2 b2 z2 => ?_); have sE : sx ν μ2 := sx_lt hS (fun a b q1 q2 q3 q4 _ => (g2 a b q1 q2 q3 q4).trans (g1 a b q1 q2 q3 q4)) b2 (by rw [n2, e14]; omega) z2)
    | refine s_winsAs _ _ _ ci cn hw (by decide) (by omega) (by omega) (by omega) (by omega) hS.2.1 h15.2.2.1 (fun μ1 g1 n1 b1 z1 => ?_)
    | refine kk _ _ sE ?_
    | refine kk _ _ (sx_78 hS fr) ?_
    | refine And.intro (fun h => absurd h (by decide)) (fun _ => ?_)
    | refine And.intro (fun _ => ?_) (fun h => absurd (by decide) h)
    | refine And.intro (fun _ => ?_) (fun _ => ?_)
    | refine And.intro ?_ ?_
  all_goals (first | decide | omega | exact hw | (rw [eF]; exact hw) | (rw [e14]; omega) | exact hS.2.1 | exact h15.2.2.1 | exact b1 | exact z1 | (unfold fp_pyr; rw [e4, if_pos (by omega)]; rfl) | (unfold fp_pyr; rw [e4, if_neg (by omega), if_pos (by omega)]; rfl) | (unfold fp_pyr; rw [e4, if_neg (by omega), if_neg (by omega), if_pos (by omega)]; rfl) | (unfold fp_pyr; rw [e4, if_neg (by omega), if_neg (by omega), if_neg (by omega), eF]) | (trace_state; fail))
theorem n_pays {l : Launch} {ν : am_N} {Q : Option am_V → am_N → Prop} (i n : Int) (ci : am_c i = i) (cn : am_c n = n) (hm : mi ν) (hw : fp_fw 999 (mv ν)) (k : ∀ μ' : am_N, gm mQ ν μ' → Q (some (.inl (fp_pyr (mv ν) i n))) μ') : am_Does l 205 [.inr (.inr 83), .inl i, .inl n] ν Q := by
  refine am_Does_of (Nat.le_of_ble_eq_true rfl) (Nat.le_of_ble_eq_true rfl) (Nat.le_of_ble_eq_true rfl) ?_
  have l0 : am_c 0 = 0 := rfl
  have l1 : am_c 1 = 1 := rfl
  have l2 : am_c 2 = 2 := rfl
  have l3 : am_c 3 = 3 := rfl
  have l60 : am_c 60 = 60 := rfl
  have l99 : am_c 99 = 99 := rfl
  have m1' : am_c (-1) = -1 := rfl
  have m2' : am_c (-2) = -2 := rfl
  have m3' : am_c (-3) = -3 := rfl
  have m4' : am_c (-4) = -4 := rfl
  have m6' : am_c (-6) = -6 := rfl
  have m9' : am_c (-9) = -9 := rfl
  obtain ⟨hf, -, -, -, -, -, -⟩ := fw_M hw (by decide)
  have f0 := hf.1.1
  have f1 := hf.1.2
  have e4 : mv ν 0 4 = ν 83 14 := rfl
  have kk := fun (x : Int) (μ' : am_N) (h : gm mQ ν μ') (e : x = fp_pyr (mv ν) i n) => am_qe (k μ' h) e
  have ei : (am_c i).toNat = i.toNat := by rw [ci]
  have n85 : ∀ (μ : am_N) (v : Int), am_up μ 85 (am_c i).toNat v 83 14 = μ 83 14 := fun μ v => am_upN (by decide)
  refine am_go (ct := fun _ => false) am_oX7_pays 300 ?_
  conv => whnf
  repeat' first
    | (refine (?_ : am_wp _ _ _ _ _ _ _ _ _ _ _ _); conv => whnf)
    | (refine (?_ : am_sw _ _ _ _); conv => whnf)
    | refine And.intro trivial ?_
    | exact trivial
    | refine x_isRunnerT _ f0 f1 (fun y0 y1 => ?_) (fun y => ?_)
    | refine x_bound _ _ _ ?_ ?_ ?_ (fun _ => ?_) (fun _ => ?_) (fun _ _ => ?_)
    | refine x_lower _ ?_ (fun μr fr => ?_)
    | (have _q := h1; have p2 : mv (am_up μ1 85 (am_c i).toNat 0) = fp_kd (mv ν) i.toNat 0 := (by rw [ei]; exact mv_but (a := 0) (by decide) (fun x b q d => (h1.2 x b q).trans (by rw [ei]; exact am_uE d))); have e14 : μ1 83 14 = ν 83 14 := (h1.2 83 14 rfl).trans (am_upN (by decide)); refine n_goesOn _ _ ci cn (mi_up h1.1 rfl) (by rw [p2]; exact fw_kd hw (by decide)) (by omega) (by omega) (by omega) (by rw [n85, e14]; omega) (fun μ2 h2 f2 _ => ?_); have hE : gm mQ ν (am_up μ2 85 (am_c i).toNat (ν 85 (am_c i).toNat)) := ⟨mi_up h2.1 rfl, fun a b q => by (by_cases d : a = 85 ∧ b = (am_c i).toNat; (rw [am_upS, if_pos d, d.1, d.2]); (rw [am_uE d, h2.2 a b q, am_uE d, h1.2 a b q, am_uE d]))⟩)
    | (have p1 : mv (am_up ν 85 (am_c i).toNat 3) = fp_kd (mv ν) i.toNat 3 := (by rw [ei]; exact mv_but (a := 0) (by decide) (fun x b q d => rfl)); refine n_goesOn _ _ ci cn (mi_up hm rfl) (by rw [p1]; exact fw_kd hw (by decide)) (by omega) (by omega) (by omega) (by rw [n85]; omega) (fun μ1 h1 f1 _ => ?_))
    | refine And.intro (fun h => absurd h (by omega)) (fun _ => ?_)
    | refine And.intro (fun _ => ?_) (fun h => absurd h (by omega))
    | refine kk _ _ hE ?_
    | refine kk _ _ (gm_84 (fun _ => rfl) hm fr) ?_
    | refine And.intro (fun h => absurd h (by decide)) (fun _ => ?_)
    | refine And.intro (fun _ => ?_) (fun h => absurd (by decide) h)
    | refine And.intro (fun _ => ?_) (fun _ => ?_)
    | refine And.intro ?_ ?_
  all_goals (first | decide | omega | (rw [ci]; omega) | exact mi_up hm rfl | exact mi_up h1.1 rfl | (rw [p1]; exact fw_kd hw (by decide)) | (rw [p2]; exact fw_kd hw (by decide)) | (rw [n85]; omega) | (unfold fp_pyr; rw [e4, if_pos (by omega)]; rfl) | (unfold fp_pyr; rw [e4, if_neg (by omega), if_pos (by omega)]; rfl) | (unfold fp_pyr; rw [e4, if_neg (by omega), if_neg (by omega), if_pos (by omega)]; rfl) | (unfold fp_pyr; rw [e4, if_neg (by omega), if_neg (by omega), if_neg (by omega), am_upN (by decide), f2, f1, p1, p2]) | (trace_state; fail))
theorem s_had {l : Launch} {ν : am_N} {Q : Option am_V → am_N → Prop} (i n g w : Int) (ci : am_c i = i) (cn : am_c n = n) (cg : am_c g = g) (cw : am_c w = w) (hS : sx ν ν) (hw : fp_fw 999 (fv ν 1)) (k : ∀ μ' : am_N, sx ν μ' → Q (some (.inl (fp_hdr (fv ν 1) i n g w))) μ') : am_Does l 106 [.inr (.inr 0), .inl i, .inl n, .inl g, .inl w] ν Q := by
  refine am_Does_of (Nat.le_of_ble_eq_true rfl) (Nat.le_of_ble_eq_true rfl) (Nat.le_of_ble_eq_true rfl) ?_
  have l0 : am_c 0 = 0 := rfl
  have l1 : am_c 1 = 1 := rfl
  have l2 : am_c 2 = 2 := rfl
  have l3 : am_c 3 = 3 := rfl
  have l60 : am_c 60 = 60 := rfl
  have l99 : am_c 99 = 99 := rfl
  have m1' : am_c (-1) = -1 := rfl
  have m2' : am_c (-2) = -2 := rfl
  have m3' : am_c (-3) = -3 := rfl
  have m4' : am_c (-4) = -4 := rfl
  have m6' : am_c (-6) = -6 := rfl
  have m9' : am_c (-9) = -9 := rfl
  obtain ⟨hf, -, -, -, -, -, -⟩ := fw_C hw (by decide)
  have f0 := hf.1.1
  have f1 := hf.1.2
  have e4 : fv ν 1 0 4 = ν 1 4 := fv_0 (by decide)
  have h15 := hS.2.2.2.1
  have kk := fun (x : Int) (μ' : am_N) (h : sx ν μ') (e : x = fp_hdr (fv ν 1) i n g w) => am_qe (k μ' h) e
  have lp76 : ∀ (m : Nat) (x y s : Int) (μ : am_N) , (∀ a b, ¬(8 ≤ a ∧ a < 15) → a ≠ 33 → a ≠ 34 → ¬(a = 29 ∧ b = 0) → μ a b = ν a b) → -1 ≤ s → s ≤ 99 → x = fq_cd (fp_hp (fv ν 1) i n g) 100 (99 - s).toNat → y = fq_ld (fp_hp (fv ν 1) i n g) 100 (99 - s).toNat → sx_3 μ 34 → (0 ≤ μ 8 4 ∧ μ 8 4 ≤ 4) → (0 ≤ μ 29 0 ∧ μ 29 0 ≤ 4) → (0 ≤ i ∧ i < ν 1 4) → (0 ≤ n ∧ n ≤ 60) → (0 ≤ g ∧ g ≤ n) → (w = 0 ∨ w = 1) → s + 1 < (m : Int) → am_AW l 0 (fun _ => 0) 106 Q 76 [some (.inr (.inr 0)), some (.inl i), some (.inl n), some (.inl g), some (.inl w), some (.inl x), some (.inl y), some (.inl s)] [] μ := by
    intro m
    induction m with
    | zero =>
      intro x y s μ hv0 hv1 hv2 hv3 hv4 hv5 hv6 hv7 hv8 hv9 hv10 hv11 hm
      exfalso
      omega
    | succ m ih =>
      intro x y s μ hv0 hv1 hv2 hv3 hv4 hv5 hv6 hv7 hv8 hv9 hv10 hv11 hm
      have cs : am_c s = s := am_cR (by omega) (by omega)
      have sE : sx ν μ := sx_lt hS (fun a b q1 q2 q3 q4 _ => hv0 a b q1 q2 q3 q4) hv5 hv6 hv7
      have eF : fv μ 1 = (fv ν 1) := fv_keep (fun a b q1 q2 => hv0 a b (by omega) (by omega) (by omega) (by omega))
      have dn := fun q : 0 ≤ s => fq_dn (P := (fp_hp (fv ν 1) i n g)) q hv2
      have wb := fp_wn_b (fp_sd (fv ν 1) i.toNat s) i n.toNat
      have cwn : am_c (fp_wn (fp_sd (fv ν 1) i.toNat s) i n.toNat) = fp_wn (fp_sd (fv ν 1) i.toNat s) i n.toNat := am_cR (by omega) (by omega)
      have e14 : μ 1 4 = ν 1 4 := hv0 1 4 (by omega) (by omega) (by omega) (by omega)
      refine am_go (ct := fun pc => Nat.beq pc 76) am_oX6_had 300 ?_
      conv => whnf
      repeat' first
        | (refine (?_ : am_wp _ _ _ _ _ _ _ _ _ _ _ _); conv => whnf)
        | (refine (?_ : am_sw _ _ _ _); conv => whnf)
        | refine And.intro trivial ?_
        | exact trivial
        | (have s0 : 0 ≤ s := (by rw [cs] at *; omega); refine x_take_8_1 (fun μ1 g1 s1 r1 => ?_); have p1 : fv μ1 8 = fv ν 1 := (fv_tk s1 r1).trans eF; have n8 : μ1 8 4 = ν 1 4 := (s1 4 (by decide)).trans e14)
        | (have p2 : fv (am_up μ1 13 (am_c i).toNat s) 8 = fp_sd (fv ν 1) i.toNat s := (by rw [ci, show fv (am_up μ1 13 i.toNat s) 8 = fp_ct (am_up (fv μ1 8) 5 i.toNat s) from fv_up (c := 8) (a := 5) (by decide), p1]; rfl); have fr8 : ∀ a b, ¬(8 ≤ a ∧ a < 15) → am_up μ1 13 (am_c i).toNat s a b = μ1 a b := (fun a b q => am_upN (by omega)); refine s_winsIn _ _ ci cn (by rw [p2]; exact fw_sd hw ⟨s0, hv2⟩) hv9.1 hv9.2 (by rw [am_upN (by decide), n8]; omega) (fun p hp2 => by rw [am_upN (by decide), g1 34 p (by omega)]; exact hv5 p hp2) (by rw [am_upN (by decide), g1 29 0 (by omega)]; exact hv7) (fun μ2 g2 q2 b2 z2 => ?_); have ps : (fp_hp (fv ν 1) i n g) s.toNat = decide (fp_wn (fp_sd (fv ν 1) i.toNat s) i n.toNat = g) := (by unfold fp_hp; rw [Int.toNat_of_nonneg s0]))
        | refine kk _ _ sE ?_
        | refine x_has1 _ f0 f1 (fun y0 y1 => ?_) (fun y => ?_)
        | refine x_refuse _ ?_ (fun μr fr => ?_)
        | refine x_noPart _ cw (fun z => ?_) (fun z => ?_)
        | refine kk _ _ (sx_78 hS fr) ?_
        | refine ih _ _ _ _ ?_ ?_ ?_ ?_ ?_ ?_ ?_ ?_ ?_ ?_ ?_ ?_ ?_
        | refine And.intro (fun h => absurd h (by decide)) (fun _ => ?_)
        | refine And.intro (fun _ => ?_) (fun h => absurd (by decide) h)
        | refine And.intro (fun _ => ?_) (fun _ => ?_)
        | refine And.intro ?_ ?_
      all_goals (first | decide | assumption | omega | (rw [ci]; omega) | (intro a b q1 q3 q4 q5; exact (g2 a b q1 q3 q4 q5).trans ((fr8 a b q1).trans ((g1 a b q1).trans (hv0 a b q1 q3 q4 q5)))) | (rw [← fv_0 (μ := μ2) (c := 8) (b := 4) (by decide), q2, fp_go_n, p2]; rw [show fp_sd (fv ν 1) i.toNat s 0 4 = ν 1 4 from e4]; omega) | (rw [(dn s0).1, ps, hv3]; first | (rw [show decide (fp_wn (fp_sd (fv ν 1) i.toNat s) i n.toNat = g) = true from decide_eq_true (by rw [p2, cwn, cg] at *; omega)]; rfl) | (rw [show decide (fp_wn (fp_sd (fv ν 1) i.toNat s) i n.toNat = g) = false from decide_eq_false (by rw [p2, cwn, cg] at *; omega)]; rfl)) | (rw [(dn s0).2, ps]; first | (rw [show decide (fp_wn (fp_sd (fv ν 1) i.toNat s) i n.toNat = g) = true from decide_eq_true (by rw [p2, cwn, cg] at *; omega)]; rfl) | (rw [show decide (fp_wn (fp_sd (fv ν 1) i.toNat s) i n.toNat = g) = false from decide_eq_false (by rw [p2, cwn, cg] at *; omega), hv4]; rfl)) | (have se : (99 - s).toNat = 100 := (by rw [cs] at *; omega); rw [se] at hv3 hv4; (unfold fp_hdr; rw [e4, if_neg (by omega), if_neg (by omega), if_neg (by omega), if_neg (by omega)]; first | (rw [if_pos (by simp only [cw, l0] at *; omega), hv3, fq_c_N]) | (rw [if_neg (by simp only [cw, l0] at *; omega), hv4, fq_l_N]))) | (trace_state; fail))
  have lp76' : ∀ (x y s : Int) (μ : am_N) , (∀ a b, ¬(8 ≤ a ∧ a < 15) → a ≠ 33 → a ≠ 34 → ¬(a = 29 ∧ b = 0) → μ a b = ν a b) → -1 ≤ s → s ≤ 99 → x = fq_cd (fp_hp (fv ν 1) i n g) 100 (99 - s).toNat → y = fq_ld (fp_hp (fv ν 1) i n g) 100 (99 - s).toNat → sx_3 μ 34 → (0 ≤ μ 8 4 ∧ μ 8 4 ≤ 4) → (0 ≤ μ 29 0 ∧ μ 29 0 ≤ 4) → (0 ≤ i ∧ i < ν 1 4) → (0 ≤ n ∧ n ≤ 60) → (0 ≤ g ∧ g ≤ n) → (w = 0 ∨ w = 1) → am_AW l 0 (fun _ => 0) 106 Q 76 [some (.inr (.inr 0)), some (.inl i), some (.inl n), some (.inl g), some (.inl w), some (.inl x), some (.inl y), some (.inl s)] [] μ := fun x y s μ hv0 hv1 hv2 hv3 hv4 hv5 hv6 hv7 hv8 hv9 hv10 hv11 => lp76 ((s + 1) + 1).toNat x y s μ hv0 hv1 hv2 hv3 hv4 hv5 hv6 hv7 hv8 hv9 hv10 hv11 (by omega)
  refine am_go (ct := fun pc => Nat.beq pc 76) am_oX6_had 300 ?_
  conv => whnf
  repeat' first
    | (refine (?_ : am_wp _ _ _ _ _ _ _ _ _ _ _ _); conv => whnf)
    | (refine (?_ : am_sw _ _ _ _); conv => whnf)
    | refine And.intro trivial ?_
    | exact trivial
    | refine x_has1 _ f0 f1 (fun y0 y1 => ?_) (fun y => ?_)
    | refine x_refuse _ ?_ (fun μr fr => ?_)
    | refine x_noPart _ cw (fun z => ?_) (fun z => ?_)
    | refine kk _ _ (sx_78 hS fr) ?_
    | refine lp76' _ _ _ _ ?_ ?_ ?_ ?_ ?_ ?_ ?_ ?_ ?_ ?_ ?_ ?_
    | refine And.intro (fun h => absurd h (by decide)) (fun _ => ?_)
    | refine And.intro (fun _ => ?_) (fun h => absurd (by decide) h)
    | refine And.intro (fun _ => ?_) (fun _ => ?_)
    | refine And.intro ?_ ?_
  all_goals (first | decide | assumption | omega | rfl | (intros; rfl) | exact hS.2.1 | exact h15.1 | exact h15.1.1 | exact h15.1.2 | exact h15.2.2.1 | exact h15.2.2.1.1 | exact h15.2.2.1.2 | (unfold fp_hdr; rw [e4, if_pos (by omega)]; done) | (unfold fp_hdr; rw [e4, if_neg (by omega), if_pos (by omega)]; done) | (unfold fp_hdr; rw [e4, if_neg (by omega), if_neg (by omega), if_pos (by omega)]; done) | (unfold fp_hdr; rw [e4, if_neg (by omega), if_neg (by omega), if_neg (by omega), if_pos (by omega)]; done) | (trace_state; fail))
theorem n_had {l : Launch} {ν : am_N} {Q : Option am_V → am_N → Prop} (i n g w : Int) (ci : am_c i = i) (cn : am_c n = n) (cg : am_c g = g) (cw : am_c w = w) (hm : mi ν) (hw : fp_fw 999 (mv ν)) (k : ∀ μ' : am_N, gm mQ ν μ' → Q (some (.inl (fp_hdr (mv ν) i n g w))) μ') : am_Does l 239 [.inr (.inr 83), .inl i, .inl n, .inl g, .inl w] ν Q := by
  refine am_Does_of (Nat.le_of_ble_eq_true rfl) (Nat.le_of_ble_eq_true rfl) (Nat.le_of_ble_eq_true rfl) ?_
  have l0 : am_c 0 = 0 := rfl
  have l1 : am_c 1 = 1 := rfl
  have l2 : am_c 2 = 2 := rfl
  have l3 : am_c 3 = 3 := rfl
  have l60 : am_c 60 = 60 := rfl
  have l99 : am_c 99 = 99 := rfl
  have m1' : am_c (-1) = -1 := rfl
  have m2' : am_c (-2) = -2 := rfl
  have m3' : am_c (-3) = -3 := rfl
  have m4' : am_c (-4) = -4 := rfl
  have m6' : am_c (-6) = -6 := rfl
  have m9' : am_c (-9) = -9 := rfl
  obtain ⟨hf, -, -, -, -, -, -⟩ := fw_M hw (by decide)
  have f0 := hf.1.1
  have f1 := hf.1.2
  have e4 : mv ν 0 4 = ν 83 14 := rfl
  have kk := fun (x : Int) (μ' : am_N) (h : gm mQ ν μ') (e : x = fp_hdr (mv ν) i n g w) => am_qe (k μ' h) e
  have ei : (am_c i).toNat = i.toNat := by rw [ci]
  have lp89 : ∀ (m : Nat) (y z x t v : Int) (μ : am_N) , mi μ → (∀ a b, mQ a b = false → ¬(a = 89 ∧ b = i.toNat) → μ a b = ν a b) → 0 ≤ v → v ≤ 100 → x = fq_cu (fp_hp (mv ν) i n g) v.toNat → t = fq_lu (fp_hp (mv ν) i n g) v.toNat → (0 ≤ i ∧ i < ν 83 14) → (0 ≤ n ∧ n ≤ 60) → (0 ≤ g ∧ g ≤ n) → (w = 0 ∨ w = 1) → z = ν 89 i.toNat → 100 - v < (m : Int) → am_AW l 0 (fun _ => 0) 239 Q 89 [some (.inr (.inr 83)), some (.inl i), some (.inl n), some (.inl g), some (.inl w), some (.inl y), some (.inl z), some (.inl x), some (.inl t), some (.inl v)] [] μ := by
    intro m
    induction m with
    | zero =>
      intro y z x t v μ hv0 hv1 hv2 hv3 hv4 hv5 hv6 hv7 hv8 hv9 hv10 hm
      exfalso
      omega
    | succ m ih =>
      intro y z x t v μ hv0 hv1 hv2 hv3 hv4 hv5 hv6 hv7 hv8 hv9 hv10 hm
      have cv2 : am_c v = v := am_cR (by omega) (by omega)
      have p2 : mv (am_up μ 89 (am_c i).toNat v) = fp_sd (mv ν) i.toNat v := by rw [ei]; exact mv_but (a := 4) (by decide) hv1
      have wb := fp_wn_b (fp_sd (mv ν) i.toNat v) i n.toNat
      have cwn : am_c (fp_wn (fp_sd (mv ν) i.toNat v) i n.toNat) = fp_wn (fp_sd (mv ν) i.toNat v) i n.toNat := am_cR (by omega) (by omega)
      have e14 : am_up μ 89 (am_c i).toNat v 83 14 = ν 83 14 := (am_upN (by decide)).trans (hv1 83 14 rfl (by omega))
      have ps : (fp_hp (mv ν) i n g) v.toNat = decide (fp_wn (fp_sd (mv ν) i.toNat v) i n.toNat = g) := by unfold fp_hp; rw [Int.toNat_of_nonneg hv2]
      have xb := fq_cu_b (fp_hp (mv ν) i n g) v.toNat
      have cx : am_c x = x := am_cR (by omega) (by omega)
      have hE : gm mQ ν (am_up μ 89 (am_c i).toNat z) := ⟨mi_up hv0 rfl, fun a b q => by (by_cases d : a = 89 ∧ b = (am_c i).toNat; (rw [am_upS, if_pos d, d.1, d.2, ei]; exact hv10); (rw [am_uE d]; exact hv1 a b q (by rw [ei] at d; exact d)))⟩
      refine am_go (ct := fun pc => Nat.beq pc 89) am_oX7_had 300 ?_
      conv => whnf
      repeat' first
        | (refine (?_ : am_wp _ _ _ _ _ _ _ _ _ _ _ _); conv => whnf)
        | (refine (?_ : am_sw _ _ _ _); conv => whnf)
        | refine And.intro trivial ?_
        | exact trivial
        | (have v9 : v ≤ 99 := (by rw [cv2, l99] at *; omega); refine n_goesOn _ _ ci cn (mi_up hv0 rfl) (by rw [p2]; exact fw_sd hw ⟨hv2, v9⟩) hv7.1 hv7.2 hv6.1 (by rw [e14]; exact hv6.2) (fun μ2 h2 f2 _ => ?_))
        | exact h2.1
        | refine kk _ _ hE ?_
        | exact hm
        | refine x_isRunnerT _ f0 f1 (fun y0 y1 => ?_) (fun y => ?_)
        | refine x_isIn w _ _ _ rfl cw ?_ ?_ (fun _ _ => ?_) (fun _ => ?_)
        | refine x_no _ ?_ (fun μr fr => ?_)
        | refine And.intro (fun h => absurd h (by omega)) (fun _ => ?_)
        | refine And.intro (fun _ => ?_) (fun h => absurd h (by omega))
        | refine kk _ _ (gm_84 (fun _ => rfl) hm fr) ?_
        | refine ih _ _ _ _ _ _ ?_ ?_ ?_ ?_ ?_ ?_ ?_ ?_ ?_ ?_ ?_ ?_
        | refine And.intro (fun h => absurd h (by decide)) (fun _ => ?_)
        | refine And.intro (fun _ => ?_) (fun h => absurd (by decide) h)
        | refine And.intro (fun _ => ?_) (fun _ => ?_)
        | refine And.intro ?_ ?_
      all_goals (first | decide | assumption | omega | (rw [ci]; omega) | exact h2.1 | (intro a b q d; rw [h2.2 a b q, am_uE (by rw [ei]; exact d)]; exact hv1 a b q d) | (rw [show (v + 1).toNat = v.toNat + 1 by omega]; simp only [fq_cu]; rw [ps]; first | (rw [show decide (fp_wn (fp_sd (mv ν) i.toNat v) i n.toNat = g) = true from decide_eq_true (by rw [f2, p2, cwn, cg] at *; omega)]; show x + 1 = fq_cu _ _ + 1; rw [hv4]) | (rw [show decide (fp_wn (fp_sd (mv ν) i.toNat v) i n.toNat = g) = false from decide_eq_false (by rw [f2, p2, cwn, cg] at *; omega)]; show x = fq_cu _ _; exact hv4)) | (rw [show (v + 1).toNat = v.toNat + 1 by omega]; simp only [fq_lu]; rw [ps]; first | (rw [show decide (fp_wn (fp_sd (mv ν) i.toNat v) i n.toNat = g) = true from decide_eq_true (by rw [f2, p2, cwn, cg] at *; omega)]; show _ = (if fq_cu _ _ = 0 then _ else _); first | (rw [if_pos (by rw [← hv4]; simp only [cx] at *; omega)]; omega) | (rw [if_neg (by rw [← hv4]; simp only [cx] at *; omega)]; exact hv5)) | (rw [show decide (fp_wn (fp_sd (mv ν) i.toNat v) i n.toNat = g) = false from decide_eq_false (by rw [f2, p2, cwn, cg] at *; omega)]; show t = fq_lu _ _; exact hv5)) | (have se : v.toNat = 100 := (by rw [cv2, l99] at *; omega); rw [se] at hv4 hv5; (unfold fp_hdr; rw [e4, if_neg (by omega), if_neg (by omega), if_neg (by omega), if_neg (by omega)]; first | (rw [if_pos (by simp only [cw, l0] at *; omega), hv4]) | (rw [if_neg (by simp only [cw, l0] at *; omega), hv5]))) | (trace_state; fail))
  have lp89' : ∀ (y z x t v : Int) (μ : am_N) , mi μ → (∀ a b, mQ a b = false → ¬(a = 89 ∧ b = i.toNat) → μ a b = ν a b) → 0 ≤ v → v ≤ 100 → x = fq_cu (fp_hp (mv ν) i n g) v.toNat → t = fq_lu (fp_hp (mv ν) i n g) v.toNat → (0 ≤ i ∧ i < ν 83 14) → (0 ≤ n ∧ n ≤ 60) → (0 ≤ g ∧ g ≤ n) → (w = 0 ∨ w = 1) → z = ν 89 i.toNat → am_AW l 0 (fun _ => 0) 239 Q 89 [some (.inr (.inr 83)), some (.inl i), some (.inl n), some (.inl g), some (.inl w), some (.inl y), some (.inl z), some (.inl x), some (.inl t), some (.inl v)] [] μ := fun y z x t v μ hv0 hv1 hv2 hv3 hv4 hv5 hv6 hv7 hv8 hv9 hv10 => lp89 ((100 - v) + 1).toNat y z x t v μ hv0 hv1 hv2 hv3 hv4 hv5 hv6 hv7 hv8 hv9 hv10 (by omega)
  refine am_go (ct := fun pc => Nat.beq pc 89) am_oX7_had 300 ?_
  conv => whnf
  repeat' first
    | (refine (?_ : am_wp _ _ _ _ _ _ _ _ _ _ _ _); conv => whnf)
    | (refine (?_ : am_sw _ _ _ _); conv => whnf)
    | refine And.intro trivial ?_
    | exact trivial
    | exact hm
    | refine x_isRunnerT _ f0 f1 (fun y0 y1 => ?_) (fun y => ?_)
    | refine x_isIn w _ _ _ rfl cw ?_ ?_ (fun _ _ => ?_) (fun _ => ?_)
    | refine x_no _ ?_ (fun μr fr => ?_)
    | refine And.intro (fun h => absurd h (by omega)) (fun _ => ?_)
    | refine And.intro (fun _ => ?_) (fun h => absurd h (by omega))
    | refine kk _ _ (gm_84 (fun _ => rfl) hm fr) ?_
    | refine lp89' _ _ _ _ _ _ ?_ ?_ ?_ ?_ ?_ ?_ ?_ ?_ ?_ ?_ ?_
    | refine And.intro (fun h => absurd h (by decide)) (fun _ => ?_)
    | refine And.intro (fun _ => ?_) (fun h => absurd (by decide) h)
    | refine And.intro (fun _ => ?_) (fun _ => ?_)
    | refine And.intro ?_ ?_
  all_goals (first | decide | assumption | omega | rfl | (intros; rfl) | (rw [ci]; omega) | (rw [ei]) | (unfold fp_hdr; rw [e4, if_pos (by omega)]; done) | (unfold fp_hdr; rw [e4, if_neg (by omega), if_pos (by omega)]; done) | (unfold fp_hdr; rw [e4, if_neg (by omega), if_neg (by omega), if_pos (by omega)]; done) | (unfold fp_hdr; rw [e4, if_neg (by omega), if_neg (by omega), if_neg (by omega), if_pos (by omega)]; done) | (trace_state; fail))
