/-! told rows, told times as functions -/
def fp_rt (n : Int) (f : Nat → Int) : Nat → Int := fun b => if (b : Int) < n then f b else 0
theorem fp_rt_i {n : Int} {f : Nat → Int} {b : Nat} (h : (b : Int) < n) : fp_rt n f b = f b := if_pos h
theorem fp_rt_e {n m : Int} {f g : Nat → Int} (hn : n = m) (h : ∀ b : Nat, (b : Int) < m → f b = g b) : fp_rt n f = fp_rt m g := funext fun b => by
  unfold fp_rt
  rw [hn]
  by_cases d : (b : Int) < m
  · rw [if_pos d, if_pos d]; exact h b d
  · rw [if_neg d, if_neg d]
theorem rq_w_tr {j c r : Nat} {lo hi : Int} {μ : am_N} (h : rq_w j c r lo hi μ) : fp_rt (μ r 1) (μ (r + 1)) = fp_rt (μ 83 j) (μ c) := fp_rt_e h.1 (fun b hb => (h.2 b hb).1)
theorem rq_w_hC {j c r : Nat} {lo hi : Int} {μ : am_N} (h : rq_w j c r lo hi μ) : ∀ b : Nat, (b : Int) < μ r 1 → lo ≤ μ (r + 1) b ∧ μ (r + 1) b ≤ hi := fun b hb => by
  have z := h.2 b (by rw [← h.1]; exact hb)
  rw [z.1]
  exact z.2
theorem rq_w_hM {j c r : Nat} {lo hi : Int} {μ : am_N} (h : rq_w j c r lo hi μ) : ∀ b : Nat, (b : Int) < μ 83 j → lo ≤ μ c b ∧ μ c b ≤ hi := fun b hb => (h.2 b hb).2
theorem gv_83 {E : List Nat} {μ μ' : am_N} (hE : lx_E E) (h : gv E μ μ') : ∀ k j, 83 ≤ k → μ' k j = μ k j := fun k j hk => h.2 k j (by rw [sx_p83 hk, hE k hk]; rfl)
/-- the first race that another wins than is told, from race k on, m races -/
def fp_jq (F : am_N) (R : Nat → Int) : Nat → Nat → Int
  | 0, _ => -9
  | m + 1, k => if F 0 4 = 0 ∨ fp_f (fp_go F k) ≠ R k then (k : Int) else fp_jq F R m (k + 1)
theorem fp_jq_b {F : am_N} {R : Nat → Int} : ∀ m k : Nat, fp_jq F R m k = -9 ∨ ((k : Int) ≤ fp_jq F R m k ∧ fp_jq F R m k < (k : Int) + m) := by
  intro m
  induction m with
  | zero => intro k; exact Or.inl rfl
  | succ m ih =>
    intro k
    simp only [fp_jq]
    split
    · exact Or.inr (by omega)
    · rcases ih (k + 1) with h | h
      · exact Or.inl h
      · exact Or.inr (by omega)
theorem fp_jq_s {F : am_N} {R : Nat → Int} {n k : Int} (k0 : 0 ≤ k) (h : k < n) : fp_jq F R (n - k).toNat k.toNat = if F 0 4 = 0 ∨ fp_f (fp_go F k.toNat) ≠ R k.toNat then k else fp_jq F R (n - (k + 1)).toNat (k + 1).toNat := by
  rw [show (n - k).toNat = (n - (k + 1)).toNat + 1 by omega, show (k + 1).toNat = k.toNat + 1 by omega]
  simp only [fp_jq]
  rw [Int.toNat_of_nonneg k0]
def fp_jn (F : am_N) (R : Nat → Int) (n : Int) : Int := fp_jq F R n.toNat 0
def fp_ftp (F : am_N) (R : Nat → Int) (n i : Int) : Nat → Bool := fun s => decide (fp_jn (fp_sd F i.toNat (s : Int)) R n < 0)
def fp_ftr (F : am_N) (R : Nat → Int) (n i w : Int) : Int := if ¬(0 ≤ i ∧ i < F 0 4) then -1 else if ¬(w = 0 ∨ w = 1) then -2 else if w = 0 then fq_cu (fp_ftp F R n i) 100 else fq_lu (fp_ftp F R n i) 100
theorem x_at_44 {l : Launch} {ν : am_N} {Q : Option am_V → am_N → Prop} (i : Int) (i0 : 0 ≤ i) (i1 : i < ν 44 1) (n1 : ν 44 1 ≤ 12) (k : Q (some (.inl (ν 45 i.toNat))) ν) : am_Does l 43 [.inr (.inr 44), .inl i] ν Q := by
  refine am_Does_of (Nat.le_of_ble_eq_true rfl) (Nat.le_of_ble_eq_true rfl) (Nat.le_of_ble_eq_true rfl) ?_
  have l0 : am_c 0 = 0 := rfl
  have l1 : am_c 1 = 1 := rfl
  have l9 : am_c 9 = 9 := rfl
  have l10 : am_c 10 = 10 := rfl
  have l12 : am_c 12 = 12 := rfl
  have l60 : am_c 60 = 60 := rfl
  have l99 : am_c 99 = 99 := rfl
  have ci : am_c i = i := am_cR (by omega) (by omega)
  have cn : am_c (ν 44 1) = ν 44 1 := am_cR (by omega) (by omega)
  have ei : (am_c i).toNat = i.toNat := by rw [ci]
  refine am_go (ct := fun _ => false) am_oX3_at 300 ?_
  conv => whnf
  repeat' first
    | (refine (?_ : am_wp _ _ _ _ _ _ _ _ _ _ _ _); conv => whnf)
    | (refine (?_ : am_sw _ _ _ _); conv => whnf)
    | refine And.intro trivial ?_
    | exact trivial
    | refine am_qe k ?_
    | refine And.intro (fun z => absurd z (by rw [ci]; omega)) (fun _ => ?_)
    | refine And.intro (fun z => absurd z (by rw [ci, cn]; omega)) (fun _ => ?_)
    | refine And.intro (fun h => absurd h (by decide)) (fun _ => ?_)
    | refine And.intro (fun _ => ?_) (fun h => absurd (by decide) h)
    | refine And.intro (fun _ => ?_) (fun _ => ?_)
    | refine And.intro ?_ ?_
  all_goals (first | decide | omega | (rw [ci]; omega) | (rw [ei]) | (trace_state; fail))
theorem s_firstNotSo {l : Launch} {ν : am_N} {Q : Option am_V → am_N → Prop} (hw : fp_fw 999 (fv ν 8)) (n0 : 0 ≤ ν 44 1) (n1 : ν 44 1 ≤ 12) (hr : ∀ b : Nat, (b : Int) < ν 44 1 → 0 ≤ ν 45 b ∧ ν 45 b ≤ 99) (hp : sx_3 ν 34) (hb : 0 ≤ ν 29 0 ∧ ν 29 0 ≤ 4) (k : ∀ (r : Int) (μ' : am_N), (∀ a b, ¬(8 ≤ a ∧ a < 15) → a ≠ 33 → a ≠ 34 → ¬(a = 29 ∧ b = 0) → μ' a b = ν a b) → μ' 8 4 = ν 8 4 → sx_3 μ' 34 → (0 ≤ μ' 29 0 ∧ μ' 29 0 ≤ 4) → r = (if (fp_jn (fv ν 8) (fp_rt (ν 44 1) (ν 45)) (ν 44 1)) < 0 then -1 else (fp_jn (fv ν 8) (fp_rt (ν 44 1) (ν 45)) (ν 44 1))) → am_c r = r → Q (some (.inl r)) μ') : am_Does l 130 [.inr (.inr 0)] ν Q := by
  refine am_Does_of (Nat.le_of_ble_eq_true rfl) (Nat.le_of_ble_eq_true rfl) (Nat.le_of_ble_eq_true rfl) ?_
  have l0 : am_c 0 = 0 := rfl
  have l1 : am_c 1 = 1 := rfl
  have l9 : am_c 9 = 9 := rfl
  have l10 : am_c 10 = 10 := rfl
  have l12 : am_c 12 = 12 := rfl
  have l60 : am_c 60 = 60 := rfl
  have l99 : am_c 99 = 99 := rfl
  have m1' : am_c (-1) = -1 := rfl
  have m2' : am_c (-2) = -2 := rfl
  have m3' : am_c (-3) = -3 := rfl
  have m9' : am_c (-9) = -9 := rfl
  have h4 := (fw_C hw (by decide)).1.1
  have cn : am_c (ν 44 1) = ν 44 1 := am_cR (by omega) (by omega)
  have e84 : fv ν 8 0 4 = ν 8 4 := fv_0 (by decide)
  have lp2 : ∀ (m : Nat) (i : Int) (μ : am_N) , (∀ a b, ¬(8 ≤ a ∧ a < 15) → a ≠ 33 → a ≠ 34 → ¬(a = 29 ∧ b = 0) → μ a b = ν a b) → fv μ 8 = fp_go (fv ν 8) i.toNat → 0 ≤ i → i ≤ ν 44 1 → fp_jq (fv ν 8) (fp_rt (ν 44 1) (ν 45)) (ν 44 1 - i).toNat i.toNat = fp_jn (fv ν 8) (fp_rt (ν 44 1) (ν 45)) (ν 44 1) → sx_3 μ 34 → (0 ≤ μ 29 0 ∧ μ 29 0 ≤ 4) → ν 44 1 - i < (m : Int) → am_AW l 0 (fun _ => 0) 130 Q 2 [some (.inr (.inr 0)), some (.inl i)] [] μ := by
    intro m
    induction m with
    | zero =>
      intro i μ hv0 hv1 hv2 hv3 hv4 hv5 hv6 hm
      exfalso
      omega
    | succ m ih =>
      intro i μ hv0 hv1 hv2 hv3 hv4 hv5 hv6 hm
      have ci : am_c i = i := am_cR (by omega) (by omega)
      have h8 : fp_fw 1059 (fv μ 8) := by rw [hv1]; exact fw_mono (fw_go hw i.toNat) (by omega)
      have n8 : μ 8 4 = ν 8 4 := by rw [← fv_0 (μ := μ) (c := 8) (b := 4) (by decide), hv1, fp_go_n]; exact fv_0 (by decide)
      have e44 : μ 44 1 = ν 44 1 := hv0 44 1 (by omega) (by omega) (by omega) (by omega)
      have c84 : am_c (ν 8 4) = ν 8 4 := am_cR (by omega) (by omega)
      have js := fun q : i < ν 44 1 => fp_jq_s (F := (fv ν 8)) (R := (fp_rt (ν 44 1) (ν 45))) hv2 q
      have kk := fun (x : Int) (e : x = (if (fp_jn (fv ν 8) (fp_rt (ν 44 1) (ν 45)) (ν 44 1)) < 0 then -1 else (fp_jn (fv ν 8) (fp_rt (ν 44 1) (ν 45)) (ν 44 1)))) (c : am_c x = x) => k x μ hv0 n8 hv5 hv6 e c
      have fb := fp_f_b (fv μ 8)
      have cf : am_c (fp_f (fv μ 8)) = fp_f (fv μ 8) := am_cR (by omega) (by omega)
      refine am_go (ct := fun pc => Nat.beq pc 2) am_oX6_firstNotSo 300 ?_
      conv => whnf
      repeat' first
        | (refine (?_ : am_wp _ _ _ _ _ _ _ _ _ _ _ _); conv => whnf)
        | (refine (?_ : am_sw _ _ _ _); conv => whnf)
        | refine And.intro trivial ?_
        | exact trivial
        | (refine x_goOn_29_8 1059 h8 (by decide) (by rw [n8]; simp only [n8, c84, l0] at *; omega) hv5 (fun μ2 g2 p2 b2 n2 _ _ => ?_); have i44 : i < ν 44 1 := (by simp only [ci, e44, cn] at *; omega); have e44b : μ2 44 1 = ν 44 1 := (g2 44 1 (by omega) (by omega) (by omega) (by omega) (by omega) (by omega)).trans e44; have e45 : μ2 45 i.toNat = ν 45 i.toNat := (g2 45 _ (by omega) (by omega) (by omega) (by omega) (by omega) (by omega)).trans (hv0 45 _ (by omega) (by omega) (by omega) (by omega)); have rb := hr i.toNat (by omega); have c45 : am_c (ν 45 i.toNat) = ν 45 i.toNat := am_cR (by omega) (by omega); have kk2 := fun (x : Int) (e : x = (if (fp_jn (fv ν 8) (fp_rt (ν 44 1) (ν 45)) (ν 44 1)) < 0 then -1 else (fp_jn (fv ν 8) (fp_rt (ν 44 1) (ν 45)) (ν 44 1)))) (c : am_c x = x) => k x μ2 (fun a b q1 q2 q3 q4 => by rw [g2 a b (by omega) (by omega) (by omega) q2 q3 q4]; exact hv0 a b q1 q2 q3 q4) ((g2 8 4 (by omega) (by omega) (by omega) (by omega) (by omega) (by omega)).trans n8) b2 (by rw [n2, n8]; exact h4) e c)
        | (refine x_at_44 i hv2 (by rw [e44b]; exact i44) (by rw [e44b]; exact n1) ?_; rw [e45])
        | refine kk2 _ ?_ ci
        | refine kk _ ?_ ci
        | refine kk _ ?_ rfl
        | refine ih _ _ ?_ ?_ ?_ ?_ ?_ ?_ ?_ ?_
        | refine And.intro (fun h => absurd h (by decide)) (fun _ => ?_)
        | refine And.intro (fun _ => ?_) (fun h => absurd (by decide) h)
        | refine And.intro (fun _ => ?_) (fun _ => ?_)
        | refine And.intro ?_ ?_
      all_goals (first | decide | assumption | omega | (intro a b q1 q2 q3 q4; rw [g2 a b (by omega) (by omega) (by omega) q2 q3 q4]; exact hv0 a b q1 q2 q3 q4) | (rw [show (i + 1).toNat = i.toNat + 1 by omega, p2, hv1]; rfl) | (rw [← hv4, js i44, if_neg (by rw [fp_rt_i (by omega), ← hv1, e84]; simp only [n8, c84, l0, cf, c45] at *; omega)]; done) | (rw [n2, n8]; exact h4) | (have jc : fv ν 8 0 4 = 0 ∨ fp_f (fp_go (fv ν 8) i.toNat) ≠ fp_rt (ν 44 1) (ν 45) i.toNat := (by first | (left; rw [e84]; simp only [n8, c84, l0] at *; omega) | (right; rw [fp_rt_i (by omega), ← hv1]; simp only [cf, c45] at *; omega)); rw [← hv4, js (by simp only [ci, e44, cn] at *; omega), if_pos jc, if_neg (by omega)]; try (rw [if_pos jc])) | (rw [← hv4, show (ν 44 1 - i).toNat = 0 by simp only [ci, e44, cn] at *; omega]; rfl) | (trace_state; fail))
  have lp2' : ∀ (i : Int) (μ : am_N) , (∀ a b, ¬(8 ≤ a ∧ a < 15) → a ≠ 33 → a ≠ 34 → ¬(a = 29 ∧ b = 0) → μ a b = ν a b) → fv μ 8 = fp_go (fv ν 8) i.toNat → 0 ≤ i → i ≤ ν 44 1 → fp_jq (fv ν 8) (fp_rt (ν 44 1) (ν 45)) (ν 44 1 - i).toNat i.toNat = fp_jn (fv ν 8) (fp_rt (ν 44 1) (ν 45)) (ν 44 1) → sx_3 μ 34 → (0 ≤ μ 29 0 ∧ μ 29 0 ≤ 4) → am_AW l 0 (fun _ => 0) 130 Q 2 [some (.inr (.inr 0)), some (.inl i)] [] μ := fun i μ hv0 hv1 hv2 hv3 hv4 hv5 hv6 => lp2 ((ν 44 1 - i) + 1).toNat i μ hv0 hv1 hv2 hv3 hv4 hv5 hv6 (by omega)
  refine am_go (ct := fun pc => Nat.beq pc 2) am_oX6_firstNotSo 300 ?_
  conv => whnf
  repeat' first
    | (refine (?_ : am_wp _ _ _ _ _ _ _ _ _ _ _ _); conv => whnf)
    | (refine (?_ : am_sw _ _ _ _); conv => whnf)
    | refine And.intro trivial ?_
    | exact trivial
    | refine lp2' _ _ ?_ ?_ ?_ ?_ ?_ ?_ ?_
    | refine And.intro (fun h => absurd h (by decide)) (fun _ => ?_)
    | refine And.intro (fun _ => ?_) (fun h => absurd (by decide) h)
    | refine And.intro (fun _ => ?_) (fun _ => ?_)
    | refine And.intro ?_ ?_
  all_goals (first | decide | assumption | omega | rfl | (intros; rfl) | (rw [show (ν 44 1 - 0).toNat = (ν 44 1).toNat by omega]; rfl) | (trace_state; fail))
theorem s_judge {l : Launch} {ν : am_N} {Q : Option am_V → am_N → Prop} (hS : sx ν ν) (hw : fp_fw 999 (fv ν 1)) (hr : ∀ b : Nat, (b : Int) < ν 44 1 → 0 ≤ ν 45 b ∧ ν 45 b ≤ 99) (k : ∀ μ' : am_N, gv [44] ν μ' → μ' 44 1 = 0 → Q (some (.inl (fp_jn (fv ν 1) (fp_rt (ν 44 1) (ν 45)) (ν 44 1)))) μ') : am_Does l 87 [.inr (.inr 0)] ν Q := by
  refine am_Does_of (Nat.le_of_ble_eq_true rfl) (Nat.le_of_ble_eq_true rfl) (Nat.le_of_ble_eq_true rfl) ?_
  have l0 : am_c 0 = 0 := rfl
  have l1 : am_c 1 = 1 := rfl
  have l9 : am_c 9 = 9 := rfl
  have l10 : am_c 10 = 10 := rfl
  have l12 : am_c 12 = 12 := rfl
  have l60 : am_c 60 = 60 := rfl
  have l99 : am_c 99 = 99 := rfl
  have m1' : am_c (-1) = -1 := rfl
  have m2' : am_c (-2) = -2 := rfl
  have m3' : am_c (-3) = -3 := rfl
  have m9' : am_c (-9) = -9 := rfl
  have hb := sx_all hS
  have n44 : 0 ≤ ν 44 1 ∧ ν 44 1 ≤ 12 := by omega
  have h15 := hS.2.2.2.1
  have jb := fp_jq_b (F := (fv ν 1)) (R := (fp_rt (ν 44 1) (ν 45))) (ν 44 1).toNat 0
  have f1 := (fw_C hw (by decide)).1.1
  clear hb
  refine am_go (ct := fun _ => false) am_oX6_judge 300 ?_
  conv => whnf
  repeat' first
    | (refine (?_ : am_wp _ _ _ _ _ _ _ _ _ _ _ _); conv => whnf)
    | (refine (?_ : am_sw _ _ _ _); conv => whnf)
    | refine And.intro trivial ?_
    | exact trivial
    | (refine x_take_8_1 (fun μ1 g1 s1 r1 => ?_); have p1 : fv μ1 8 = fv ν 1 := fv_tk s1 r1; have n8 : μ1 8 4 = ν 1 4 := s1 4 (by decide); have e44 : μ1 44 1 = ν 44 1 := g1 44 1 (by omega); have e45 : μ1 45 = ν 45 := funext (fun b => g1 45 b (by omega)))
    | (refine s_firstNotSo (by rw [p1]; exact hw) (by rw [e44]; exact n44.1) (by rw [e44]; exact n44.2) (by rw [e44, e45]; exact hr) (fun p hp => by rw [g1 34 p (by omega)]; exact hS.2.1 p hp) (by rw [g1 29 0 (by omega)]; exact h15.2.2.1) (fun r μ2 g2 n2 b2 z2 er cr => ?_); rw [p1, e44, e45] at er; have sE : sx ν μ2 := sx_lt hS (fun a b q1 q2 q3 q4 _ => (g2 a b q1 q2 q3 q4).trans (g1 a b q1)) b2 (by rw [n2, n8]; exact f1) z2; have hG : gv [44] ν (am_up μ2 44 1 0) := gv_b44 (gv_sx (gv_rf hS) sE) rfl (by decide); have kk := fun (x : Int) (e : x = fp_jn (fv ν 1) (fp_rt (ν 44 1) (ν 45)) (ν 44 1)) => am_qe (k _ hG (if_pos ⟨rfl, rfl⟩)) e)
    | refine v_drop_X3_44 ?_
    | refine kk _ ?_
    | refine And.intro (fun h => absurd h (by decide)) (fun _ => ?_)
    | refine And.intro (fun _ => ?_) (fun h => absurd (by decide) h)
    | refine And.intro (fun _ => ?_) (fun _ => ?_)
    | refine And.intro ?_ ?_
  all_goals (first | decide | omega | (have e : fp_jn (fv ν 1) (fp_rt (ν 44 1) (ν 45)) (ν 44 1) = fp_jq (fv ν 1) (fp_rt (ν 44 1) (ν 45)) (ν 44 1).toNat 0 := rfl; have jb2 : fp_jn (fv ν 1) (fp_rt (ν 44 1) (ν 45)) (ν 44 1) = -9 ∨ 0 ≤ fp_jn (fv ν 1) (fp_rt (ν 44 1) (ν 45)) (ν 44 1) := (by rw [e]; rcases jb with y | y; exact Or.inl y; exact Or.inr (by omega)); clear jb e; simp only [cr] at *; by_cases z : fp_jn (fv ν 1) (fp_rt (ν 44 1) (ν 45)) (ν 44 1) < 0; (rw [if_pos z] at er; omega); (rw [if_neg z] at er; omega)) | (trace_state; fail))
theorem n_wrongAt {l : Launch} {ν : am_N} {Q : Option am_V → am_N → Prop} (hm : mi ν) (hw : fp_fw 999 (mv ν)) (hr : ∀ b : Nat, (b : Int) < ν 83 42 → 0 ≤ ν 106 b ∧ ν 106 b ≤ 99) (k : ∀ μ' : am_N, gm mQ ν μ' → Q (some (.inl (fp_jn (mv ν) (fp_rt (ν 83 42) (ν 106)) (ν 83 42)))) μ') : am_Does l 245 [.inr (.inr 83)] ν Q := by
  refine am_Does_of (Nat.le_of_ble_eq_true rfl) (Nat.le_of_ble_eq_true rfl) (Nat.le_of_ble_eq_true rfl) ?_
  have l0 : am_c 0 = 0 := rfl
  have l1 : am_c 1 = 1 := rfl
  have l9 : am_c 9 = 9 := rfl
  have l10 : am_c 10 = 10 := rfl
  have l12 : am_c 12 = 12 := rfl
  have l60 : am_c 60 = 60 := rfl
  have l99 : am_c 99 = 99 := rfl
  have m1' : am_c (-1) = -1 := rfl
  have m2' : am_c (-2) = -2 := rfl
  have m3' : am_c (-3) = -3 := rfl
  have m9' : am_c (-9) = -9 := rfl
  have hc := mi_all hm
  have n0 : 0 ≤ ν 83 42 := by omega
  have n1 : ν 83 42 ≤ 12 := by omega
  clear hc
  have h4 := (fw_M hw (by decide)).1.1
  have e4 : mv ν 0 4 = ν 83 14 := rfl
  have cn : am_c (ν 83 42) = ν 83 42 := am_cR (by omega) (by omega)
  have c14 : am_c (ν 83 14) = ν 83 14 := am_cR (by omega) (by omega)
  have kk := fun (x : Int) (μ' : am_N) a1 (e : x = (fp_jn (mv ν) (fp_rt (ν 83 42) (ν 106)) (ν 83 42))) => am_qe (k μ' a1) e
  have jb := fp_jq_b (F := (mv ν)) (R := (fp_rt (ν 83 42) (ν 106))) (ν 83 42).toNat 0
  have lp11 : ∀ (m : Nat) (x i : Int) (μ : am_N) , MD mQ ν μ → 0 ≤ i → i ≤ ν 83 42 → μ 83 42 = ν 83 42 → (∀ b, μ 106 b = ν 106 b) → μ 83 14 = ν 83 14 → (x = -9 ∧ fp_jq (mv ν) (fp_rt (ν 83 42) (ν 106)) (ν 83 42 - i).toNat i.toNat = fp_jn (mv ν) (fp_rt (ν 83 42) (ν 106)) (ν 83 42) ∧ mv μ = fp_go (mv ν) i.toNat) ∨ (0 ≤ x ∧ x = (fp_jn (mv ν) (fp_rt (ν 83 42) (ν 106)) (ν 83 42))) → ν 83 42 - i < (m : Int) → am_AW l 0 (fun _ => 0) 245 Q 11 [some (.inr (.inr 83)), some (.inl x), some (.inl i)] [] μ := by
    intro m
    induction m with
    | zero =>
      intro x i μ hv0 hv1 hv2 hv3 hv4 hv5 hv6 hm
      exfalso
      omega
    | succ m ih =>
      intro x i μ hv0 hv1 hv2 hv3 hv4 hv5 hv6 hm
      have ci : am_c i = i := am_cR (by omega) (by omega)
      have hmi := md_i hv0
      have xb : -9 ≤ x ∧ x ≤ 12 := by
        have e : (fp_jn (mv ν) (fp_rt (ν 83 42) (ν 106)) (ν 83 42)) = fp_jq (mv ν) (fp_rt (ν 83 42) (ν 106)) (ν 83 42).toNat 0 := rfl
        rw [← e] at jb
        rcases hv6 with z | z <;> omega
      have cx : am_c x = x := am_cR (by omega) (by omega)
      have js := fun q : i < ν 83 42 => fp_jq_s (F := (mv ν)) (R := (fp_rt (ν 83 42) (ν 106))) hv1 q
      refine am_go (ct := fun pc => Nat.beq pc 11) am_oX7_wrongAt 300 ?_
      conv => whnf
      repeat' first
        | (refine (?_ : am_wp _ _ _ _ _ _ _ _ _ _ _ _); conv => whnf)
        | (refine (?_ : am_sw _ _ _ _); conv => whnf)
        | refine And.intro trivial ?_
        | exact trivial
        | (have q0 := hv6.resolve_right (fun z => by simp only [cx, l0] at *; omega); have i42 : i < ν 83 42 := (by simp only [ci, hv3, cn] at *; omega); have h8 : fp_fw 1059 (mv μ) := (by rw [q0.2.2]; exact fw_mono (fw_go hw i.toNat) (by omega)); refine x_runs 1059 h8 (by decide) (by rw [hv5]; simp only [hv5, c14, l0] at *; omega) (fun p hp => mi_or hmi p hp) (fun μ2 g2 p2 b2 _ _ => ?_); have e106 : μ2 106 (am_c i).toNat = ν 106 i.toNat := (by rw [ci]; exact (g2 106 _ (by omega) (by omega) (by omega) (by omega) (by omega)).trans (hv4 _)); have rb := hr i.toNat (by omega); have c106 : am_c (ν 106 i.toNat) = ν 106 i.toNat := am_cR (by omega) (by omega); have fb := fp_f_b (mv μ); have cf : am_c (fp_f (mv μ)) = fp_f (mv μ) := am_cR (by omega) (by omega); have d2 : MD mQ ν μ2 := md_tr hv0 (gm_runs hmi g2 b2) (fun _ _ q => q); have d42 : μ2 83 42 = ν 83 42 := (g2 83 42 (by omega) (by omega) (by omega) (by omega) (by omega)).trans hv3; have d106 : ∀ b, μ2 106 b = ν 106 b := (fun b => (g2 106 b (by omega) (by omega) (by omega) (by omega) (by omega)).trans (hv4 b)); have d14 : μ2 83 14 = ν 83 14 := (g2 83 14 (by omega) (by omega) (by omega) (by omega) (by omega)).trans hv5)
        | (refine m_come1 (fun μ3 u1 _ _ _ => ?_); have hG : gm mQ ν μ3 := md_back hv0 u1 (fun _ _ q => q))
        | refine kk _ _ hG ?_
        | refine ih _ _ _ d2 ?_ ?_ d42 d106 d14 ?_ ?_
        | (refine m_keep1 (fun μ1 u1 _ _ _ => ?_); have hD : MD mQ ν μ1 := md_start (gm_rf hm) u1; have p1 : mv μ1 = mv ν := mv_keep (fun a b q => u1.2 a b (by omega) (by omega)))
        | refine ih _ _ _ ?_ ?_ ?_ ?_ ?_ ?_ ?_ ?_
        | refine And.intro (fun h => absurd h (by decide)) (fun _ => ?_)
        | refine And.intro (fun _ => ?_) (fun h => absurd (by decide) h)
        | refine And.intro (fun _ => ?_) (fun _ => ?_)
        | refine And.intro ?_ ?_
      all_goals (first | decide | assumption | omega | (rw [ci]; simp only [ci, hv3, cn] at *; omega) | (simp only [ci, hv3, cn] at *; omega) | (first | (left; refine ⟨rfl, ?_, ?_⟩; (rw [← q0.2.1, js i42, if_neg (by rw [fp_rt_i (by omega), ← q0.2.2, e4]; simp only [hv5, c14, l0, e106, cf, c106] at *; omega)]); (rw [show (i + 1).toNat = i.toNat + 1 by omega, p2, q0.2.2]; rfl)) | (right; refine ⟨by omega, ?_⟩; rw [← q0.2.1, js i42, if_pos (by right; rw [fp_rt_i (by omega), ← q0.2.2]; simp only [e106, cf, c106] at *; omega)])) | (have q0 := hv6.resolve_right (fun z => by simp only [cx, l0] at *; omega); right; refine ⟨by omega, ?_⟩; rw [← q0.2.1, js (by simp only [ci, hv3, cn] at *; omega), if_pos (by left; rw [e4]; simp only [hv5, c14, l0] at *; omega)]) | (rcases hv6 with z | z; (rw [← z.2.1, z.1, show (ν 83 42 - i).toNat = 0 by simp only [ci, hv3, cn, cx, l0] at *; omega]; rfl); (exact z.2)) | (trace_state; fail))
  have lp11' : ∀ (x i : Int) (μ : am_N) , MD mQ ν μ → 0 ≤ i → i ≤ ν 83 42 → μ 83 42 = ν 83 42 → (∀ b, μ 106 b = ν 106 b) → μ 83 14 = ν 83 14 → (x = -9 ∧ fp_jq (mv ν) (fp_rt (ν 83 42) (ν 106)) (ν 83 42 - i).toNat i.toNat = fp_jn (mv ν) (fp_rt (ν 83 42) (ν 106)) (ν 83 42) ∧ mv μ = fp_go (mv ν) i.toNat) ∨ (0 ≤ x ∧ x = (fp_jn (mv ν) (fp_rt (ν 83 42) (ν 106)) (ν 83 42))) → am_AW l 0 (fun _ => 0) 245 Q 11 [some (.inr (.inr 83)), some (.inl x), some (.inl i)] [] μ := fun x i μ hv0 hv1 hv2 hv3 hv4 hv5 hv6 => lp11 ((ν 83 42 - i) + 1).toNat x i μ hv0 hv1 hv2 hv3 hv4 hv5 hv6 (by omega)
  refine am_go (ct := fun pc => Nat.beq pc 11) am_oX7_wrongAt 300 ?_
  conv => whnf
  repeat' first
    | (refine (?_ : am_wp _ _ _ _ _ _ _ _ _ _ _ _); conv => whnf)
    | (refine (?_ : am_sw _ _ _ _); conv => whnf)
    | refine And.intro trivial ?_
    | exact trivial
    | (refine m_keep1 (fun μ1 u1 _ _ _ => ?_); have hD : MD mQ ν μ1 := md_start (gm_rf hm) u1; have p1 : mv μ1 = mv ν := mv_keep (fun a b q => u1.2 a b (by omega) (by omega)))
    | refine lp11' _ _ _ ?_ ?_ ?_ ?_ ?_ ?_ ?_
    | refine And.intro (fun h => absurd h (by decide)) (fun _ => ?_)
    | refine And.intro (fun _ => ?_) (fun h => absurd (by decide) h)
    | refine And.intro (fun _ => ?_) (fun _ => ?_)
    | refine And.intro ?_ ?_
  all_goals (first | decide | assumption | omega | exact hD | (exact u1.2 83 42 (by omega) (by omega)) | (exact u1.2 83 14 (by omega) (by omega)) | (intro b; exact u1.2 106 b (by omega) (by omega)) | (refine Or.inl ⟨rfl, ?_, p1⟩; rw [show (ν 83 42 - 0).toNat = (ν 83 42).toNat by omega]; rfl) | (trace_state; fail))
theorem n_judge {l : Launch} {ν : am_N} {Q : Option am_V → am_N → Prop} (hm : mi ν) (hw : fp_fw 999 (mv ν)) (hr : ∀ b : Nat, (b : Int) < ν 83 42 → 0 ≤ ν 106 b ∧ ν 106 b ≤ 99) (k : ∀ μ' : am_N, gm (mo mQ (m1o 83000 42)) ν μ' → μ' 83 42 = 0 → Q (some (.inl (fp_jn (mv ν) (fp_rt (ν 83 42) (ν 106)) (ν 83 42)))) μ') : am_Does l 247 [.inr (.inr 83)] ν Q := by
  refine am_Does_of (Nat.le_of_ble_eq_true rfl) (Nat.le_of_ble_eq_true rfl) (Nat.le_of_ble_eq_true rfl) ?_
  refine am_go (ct := fun _ => false) am_oX7_judge 300 ?_
  conv => whnf
  repeat' first
    | (refine (?_ : am_wp _ _ _ _ _ _ _ _ _ _ _ _); conv => whnf)
    | (refine (?_ : am_sw _ _ _ _); conv => whnf)
    | refine And.intro trivial ?_
    | exact trivial
    | (refine n_wrongAt hm hw hr (fun μ2 h2 => ?_); have hG : gm (mo mQ (m1o 83000 42)) ν (am_up μ2 83 42 0) := (by refine ⟨?_, fun a b q => ?_⟩; (have hm2 := h2.1; unfold mi at hm2 ⊢; rw [am_upM (by decide), am_upM (by decide), am_upM (by decide), am_upM (by decide), am_upM (by decide), am_upM (by decide), show am_up μ2 83 42 0 83 42 = 0 from if_pos ⟨rfl, rfl⟩, am_upN (by decide), am_upN (by decide), am_upN (by decide)]; refine ⟨hm2.1, hm2.2.1, hm2.2.2.1, hm2.2.2.2.1, hm2.2.2.2.2.1, hm2.2.2.2.2.2.1, by decide, hm2.2.2.2.2.2.2.2.1, hm2.2.2.2.2.2.2.2.2.1, hm2.2.2.2.2.2.2.2.2.2.1, fun p hp => ?_⟩; rw [am_upN (by decide)]; exact hm2.2.2.2.2.2.2.2.2.2.2 p hp); (rw [am_uE (fun z => by rw [z.1, z.2] at q; cases q)]; exact h2.2 a b (Bool.or_eq_false_iff.mp q).1)))
    | exact k _ hG (if_pos ⟨rfl, rfl⟩)
    | refine And.intro (fun h => absurd h (by decide)) (fun _ => ?_)
    | refine And.intro (fun _ => ?_) (fun h => absurd (by decide) h)
    | refine And.intro (fun _ => ?_) (fun _ => ?_)
    | refine And.intro ?_ ?_
  all_goals (first | decide | (trace_state; fail))
theorem s_fits {l : Launch} {ν : am_N} {Q : Option am_V → am_N → Prop} (i w : Int) (ci : am_c i = i) (cw : am_c w = w) (hS : sx ν ν) (hw : fp_fw 999 (fv ν 1)) (hr : ∀ b : Nat, (b : Int) < ν 44 1 → 0 ≤ ν 45 b ∧ ν 45 b ≤ 99) (k : ∀ μ' : am_N, sx ν μ' → Q (some (.inl (fp_ftr (fv ν 1) (fp_rt (ν 44 1) (ν 45)) (ν 44 1) i w))) μ') : am_Does l 84 [.inr (.inr 0), .inl i, .inl w] ν Q := by
  refine am_Does_of (Nat.le_of_ble_eq_true rfl) (Nat.le_of_ble_eq_true rfl) (Nat.le_of_ble_eq_true rfl) ?_
  have l0 : am_c 0 = 0 := rfl
  have l1 : am_c 1 = 1 := rfl
  have l9 : am_c 9 = 9 := rfl
  have l10 : am_c 10 = 10 := rfl
  have l12 : am_c 12 = 12 := rfl
  have l60 : am_c 60 = 60 := rfl
  have l99 : am_c 99 = 99 := rfl
  have m1' : am_c (-1) = -1 := rfl
  have m2' : am_c (-2) = -2 := rfl
  have m3' : am_c (-3) = -3 := rfl
  have m9' : am_c (-9) = -9 := rfl
  obtain ⟨hf, -, -, -, -, -, -⟩ := fw_C hw (by decide)
  have f0 := hf.1.1
  have f1 := hf.1.2
  have e4 : fv ν 1 0 4 = ν 1 4 := fv_0 (by decide)
  have h15 := hS.2.2.2.1
  have hb := sx_all hS
  have n44 : 0 ≤ ν 44 1 ∧ ν 44 1 ≤ 12 := by omega
  clear hb
  have kk := fun (x : Int) (μ' : am_N) (h : sx ν μ') (e : x = fp_ftr (fv ν 1) (fp_rt (ν 44 1) (ν 45)) (ν 44 1) i w) => am_qe (k μ' h) e
  have lp41 : ∀ (m : Nat) (x y s : Int) (μ : am_N) , (∀ a b, ¬(8 ≤ a ∧ a < 15) → a ≠ 33 → a ≠ 34 → ¬(a = 29 ∧ b = 0) → μ a b = ν a b) → -1 ≤ s → s ≤ 99 → x = fq_cd (fp_ftp (fv ν 1) (fp_rt (ν 44 1) (ν 45)) (ν 44 1) i) 100 (99 - s).toNat → y = fq_ld (fp_ftp (fv ν 1) (fp_rt (ν 44 1) (ν 45)) (ν 44 1) i) 100 (99 - s).toNat → sx_3 μ 34 → (0 ≤ μ 8 4 ∧ μ 8 4 ≤ 4) → (0 ≤ μ 29 0 ∧ μ 29 0 ≤ 4) → (0 ≤ i ∧ i < ν 1 4) → (w = 0 ∨ w = 1) → s + 1 < (m : Int) → am_AW l 0 (fun _ => 0) 84 Q 41 [some (.inr (.inr 0)), some (.inl i), some (.inl w), some (.inl x), some (.inl y), some (.inl s)] [] μ := by
    intro m
    induction m with
    | zero =>
      intro x y s μ hv0 hv1 hv2 hv3 hv4 hv5 hv6 hv7 hv8 hv9 hm
      exfalso
      omega
    | succ m ih =>
      intro x y s μ hv0 hv1 hv2 hv3 hv4 hv5 hv6 hv7 hv8 hv9 hm
      have cs : am_c s = s := am_cR (by omega) (by omega)
      have sE : sx ν μ := sx_lt hS (fun a b q1 q2 q3 q4 _ => hv0 a b q1 q2 q3 q4) hv5 hv6 hv7
      have eF : fv μ 1 = (fv ν 1) := fv_keep (fun a b q1 q2 => hv0 a b (by omega) (by omega) (by omega) (by omega))
      have dn := fun q : 0 ≤ s => fq_dn (P := (fp_ftp (fv ν 1) (fp_rt (ν 44 1) (ν 45)) (ν 44 1) i)) q hv2
      have e14 : μ 1 4 = ν 1 4 := hv0 1 4 (by omega) (by omega) (by omega) (by omega)
      have jb := fp_jq_b (F := fp_sd (fv ν 1) i.toNat s) (R := (fp_rt (ν 44 1) (ν 45))) (ν 44 1).toNat 0
      refine am_go (ct := fun pc => Nat.beq pc 41) am_oX6_fits 300 ?_
      conv => whnf
      repeat' first
        | (refine (?_ : am_wp _ _ _ _ _ _ _ _ _ _ _ _); conv => whnf)
        | (refine (?_ : am_sw _ _ _ _); conv => whnf)
        | refine And.intro trivial ?_
        | exact trivial
        | (have s0 : 0 ≤ s := (by simp only [cs, l0] at *; omega); refine x_take_8_1 (fun μ1 g1 s1 r1 => ?_); have p1 : fv μ1 8 = fv ν 1 := (fv_tk s1 r1).trans eF; have n8 : μ1 8 4 = ν 1 4 := (s1 4 (by decide)).trans e14)
        | (have p2 : fv (am_up μ1 13 (am_c i).toNat s) 8 = fp_sd (fv ν 1) i.toNat s := (by rw [ci, show fv (am_up μ1 13 i.toNat s) 8 = fp_ct (am_up (fv μ1 8) 5 i.toNat s) from fv_up (c := 8) (a := 5) (by decide), p1]; rfl); have e44 : am_up μ1 13 (am_c i).toNat s 44 1 = ν 44 1 := (am_upN (by decide)).trans ((g1 44 1 (by omega)).trans (hv0 44 1 (by omega) (by omega) (by omega) (by omega))); have e45 : am_up μ1 13 (am_c i).toNat s 45 = ν 45 := funext (fun b => (am_upN (by decide)).trans ((g1 45 b (by omega)).trans (hv0 45 b (by omega) (by omega) (by omega) (by omega)))); have fr8 : ∀ a b, ¬(8 ≤ a ∧ a < 15) → am_up μ1 13 (am_c i).toNat s a b = μ1 a b := (fun a b q => am_upN (by omega)); refine s_firstNotSo (by rw [p2]; exact fw_sd hw ⟨s0, hv2⟩) (by rw [e44]; exact n44.1) (by rw [e44]; exact n44.2) (by rw [e44, e45]; exact hr) (fun p hp2 => by rw [am_upN (by decide), g1 34 p (by omega)]; exact hv5 p hp2) (by rw [am_upN (by decide), g1 29 0 (by omega)]; exact hv7) (fun r μ2 g2 n2 b2 z2 er cr => ?_); rw [p2, e44, e45] at er; have ps : (fp_ftp (fv ν 1) (fp_rt (ν 44 1) (ν 45)) (ν 44 1) i) s.toNat = decide ((fp_jn (fp_sd (fv ν 1) i.toNat s) (fp_rt (ν 44 1) (ν 45)) (ν 44 1)) < 0) := (by unfold fp_ftp; rw [Int.toNat_of_nonneg s0]); have m8 : μ2 8 4 = ν 1 4 := n2.trans ((am_upN (by decide)).trans n8))
        | refine kk _ _ sE ?_
        | refine x_has1 _ f0 f1 (fun y0 y1 => ?_) (fun y => ?_)
        | refine x_refuse _ ?_ (fun μr fr => ?_)
        | refine x_noPart _ cw (fun z => ?_) (fun z => ?_)
        | refine kk _ _ (sx_78 hS fr) ?_
        | refine ih _ _ _ _ ?_ ?_ ?_ ?_ ?_ ?_ ?_ ?_ ?_ ?_ ?_
        | refine And.intro (fun h => absurd h (by decide)) (fun _ => ?_)
        | refine And.intro (fun _ => ?_) (fun h => absurd (by decide) h)
        | refine And.intro (fun _ => ?_) (fun _ => ?_)
        | refine And.intro ?_ ?_
      all_goals (first | decide | assumption | omega | (rw [ci]; omega) | (intro a b q1 q3 q4 q5; exact (g2 a b q1 q3 q4 q5).trans ((fr8 a b q1).trans ((g1 a b q1).trans (hv0 a b q1 q3 q4 q5)))) | (rw [m8]; exact ⟨f0, f1⟩) | (rw [(dn s0).1, ps, hv3]; first | (rw [show decide ((fp_jn (fp_sd (fv ν 1) i.toNat s) (fp_rt (ν 44 1) (ν 45)) (ν 44 1)) < 0) = true from decide_eq_true (by simp only [cr, l0] at *; split at er <;> omega)]; rfl) | (rw [show decide ((fp_jn (fp_sd (fv ν 1) i.toNat s) (fp_rt (ν 44 1) (ν 45)) (ν 44 1)) < 0) = false from decide_eq_false (by simp only [cr, l0] at *; split at er <;> omega)]; rfl)) | (rw [(dn s0).2, ps]; first | (rw [show decide ((fp_jn (fp_sd (fv ν 1) i.toNat s) (fp_rt (ν 44 1) (ν 45)) (ν 44 1)) < 0) = true from decide_eq_true (by simp only [cr, l0] at *; split at er <;> omega)]; rfl) | (rw [show decide ((fp_jn (fp_sd (fv ν 1) i.toNat s) (fp_rt (ν 44 1) (ν 45)) (ν 44 1)) < 0) = false from decide_eq_false (by simp only [cr, l0] at *; split at er <;> omega)]; rw [hv4]; rfl)) | (have se : (99 - s).toNat = 100 := (by simp only [cs, l0] at *; omega); rw [se] at hv3 hv4; (unfold fp_ftr; rw [e4, if_neg (by omega), if_neg (by omega)]; first | (rw [if_pos (by simp only [cw, l0] at *; omega), hv3, fq_c_N]) | (rw [if_neg (by simp only [cw, l0] at *; omega), hv4, fq_l_N]))) | (trace_state; fail))
  have lp41' : ∀ (x y s : Int) (μ : am_N) , (∀ a b, ¬(8 ≤ a ∧ a < 15) → a ≠ 33 → a ≠ 34 → ¬(a = 29 ∧ b = 0) → μ a b = ν a b) → -1 ≤ s → s ≤ 99 → x = fq_cd (fp_ftp (fv ν 1) (fp_rt (ν 44 1) (ν 45)) (ν 44 1) i) 100 (99 - s).toNat → y = fq_ld (fp_ftp (fv ν 1) (fp_rt (ν 44 1) (ν 45)) (ν 44 1) i) 100 (99 - s).toNat → sx_3 μ 34 → (0 ≤ μ 8 4 ∧ μ 8 4 ≤ 4) → (0 ≤ μ 29 0 ∧ μ 29 0 ≤ 4) → (0 ≤ i ∧ i < ν 1 4) → (w = 0 ∨ w = 1) → am_AW l 0 (fun _ => 0) 84 Q 41 [some (.inr (.inr 0)), some (.inl i), some (.inl w), some (.inl x), some (.inl y), some (.inl s)] [] μ := fun x y s μ hv0 hv1 hv2 hv3 hv4 hv5 hv6 hv7 hv8 hv9 => lp41 ((s + 1) + 1).toNat x y s μ hv0 hv1 hv2 hv3 hv4 hv5 hv6 hv7 hv8 hv9 (by omega)
  refine am_go (ct := fun pc => Nat.beq pc 41) am_oX6_fits 300 ?_
  conv => whnf
  repeat' first
    | (refine (?_ : am_wp _ _ _ _ _ _ _ _ _ _ _ _); conv => whnf)
    | (refine (?_ : am_sw _ _ _ _); conv => whnf)
    | refine And.intro trivial ?_
    | exact trivial
    | refine x_has1 _ f0 f1 (fun y0 y1 => ?_) (fun y => ?_)
    | refine x_refuse _ ?_ (fun μr fr => ?_)
    | refine x_noPart _ cw (fun z => ?_) (fun z => ?_)
    | refine kk _ _ (sx_78 hS fr) ?_
    | refine lp41' _ _ _ _ ?_ ?_ ?_ ?_ ?_ ?_ ?_ ?_ ?_ ?_
    | refine And.intro (fun h => absurd h (by decide)) (fun _ => ?_)
    | refine And.intro (fun _ => ?_) (fun h => absurd (by decide) h)
    | refine And.intro (fun _ => ?_) (fun _ => ?_)
    | refine And.intro ?_ ?_
  all_goals (first | decide | assumption | omega | rfl | (intros; rfl) | exact hS.2.1 | exact h15.1 | exact h15.1.1 | exact h15.1.2 | exact h15.2.2.1 | exact h15.2.2.1.1 | exact h15.2.2.1.2 | (unfold fp_ftr; rw [e4, if_pos (by omega)]; done) | (unfold fp_ftr; rw [e4, if_neg (by omega), if_pos (by omega)]; done) | (trace_state; fail))
theorem n_fits {l : Launch} {ν : am_N} {Q : Option am_V → am_N → Prop} (i w : Int) (ci : am_c i = i) (cw : am_c w = w) (hm : mi ν) (hw : fp_fw 999 (mv ν)) (hr : ∀ b : Nat, (b : Int) < ν 83 42 → 0 ≤ ν 106 b ∧ ν 106 b ≤ 99) (k : ∀ μ' : am_N, gm mQ ν μ' → Q (some (.inl (fp_ftr (mv ν) (fp_rt (ν 83 42) (ν 106)) (ν 83 42) i w))) μ') : am_Does l 246 [.inr (.inr 83), .inl i, .inl w] ν Q := by
  refine am_Does_of (Nat.le_of_ble_eq_true rfl) (Nat.le_of_ble_eq_true rfl) (Nat.le_of_ble_eq_true rfl) ?_
  have l0 : am_c 0 = 0 := rfl
  have l1 : am_c 1 = 1 := rfl
  have l9 : am_c 9 = 9 := rfl
  have l10 : am_c 10 = 10 := rfl
  have l12 : am_c 12 = 12 := rfl
  have l60 : am_c 60 = 60 := rfl
  have l99 : am_c 99 = 99 := rfl
  have m1' : am_c (-1) = -1 := rfl
  have m2' : am_c (-2) = -2 := rfl
  have m3' : am_c (-3) = -3 := rfl
  have m9' : am_c (-9) = -9 := rfl
  obtain ⟨hf, -, -, -, -, -, -⟩ := fw_M hw (by decide)
  have f0 := hf.1.1
  have f1 := hf.1.2
  have e4 : mv ν 0 4 = ν 83 14 := rfl
  have hc := mi_all hm
  have n1 : 0 ≤ ν 83 42 ∧ ν 83 42 ≤ 12 := by omega
  clear hc
  have kk := fun (x : Int) (μ' : am_N) (h : gm mQ ν μ') (e : x = fp_ftr (mv ν) (fp_rt (ν 83 42) (ν 106)) (ν 83 42) i w) => am_qe (k μ' h) e
  have ei : (am_c i).toNat = i.toNat := by rw [ci]
  have lp47 : ∀ (m : Nat) (z x t v : Int) (μ : am_N) , mi μ → (∀ a b, mQ a b = false → ¬(a = 89 ∧ b = i.toNat) → μ a b = ν a b) → 0 ≤ v → v ≤ 100 → x = fq_cu (fp_ftp (mv ν) (fp_rt (ν 83 42) (ν 106)) (ν 83 42) i) v.toNat → t = fq_lu (fp_ftp (mv ν) (fp_rt (ν 83 42) (ν 106)) (ν 83 42) i) v.toNat → (0 ≤ i ∧ i < ν 83 14) → (w = 0 ∨ w = 1) → z = ν 89 i.toNat → 100 - v < (m : Int) → am_AW l 0 (fun _ => 0) 246 Q 47 [some (.inr (.inr 83)), some (.inl i), some (.inl w), some (.inl z), some (.inl x), some (.inl t), some (.inl v)] [] μ := by
    intro m
    induction m with
    | zero =>
      intro z x t v μ hv0 hv1 hv2 hv3 hv4 hv5 hv6 hv7 hv8 hm
      exfalso
      omega
    | succ m ih =>
      intro z x t v μ hv0 hv1 hv2 hv3 hv4 hv5 hv6 hv7 hv8 hm
      have cv2 : am_c v = v := am_cR (by omega) (by omega)
      have p2 : mv (am_up μ 89 (am_c i).toNat v) = fp_sd (mv ν) i.toNat v := by rw [ei]; exact mv_but (a := 4) (by decide) hv1
      have n42 : am_up μ 89 (am_c i).toNat v 83 42 = ν 83 42 := (am_upN (by decide)).trans (hv1 83 42 rfl (by omega))
      have e106 : am_up μ 89 (am_c i).toNat v 106 = ν 106 := funext (fun b => (am_upN (by decide)).trans (hv1 106 b rfl (by omega)))
      have ps : (fp_ftp (mv ν) (fp_rt (ν 83 42) (ν 106)) (ν 83 42) i) v.toNat = decide ((fp_jn (fp_sd (mv ν) i.toNat v) (fp_rt (ν 83 42) (ν 106)) (ν 83 42)) < 0) := by unfold fp_ftp; rw [Int.toNat_of_nonneg hv2]
      have jb := fp_jq_b (F := fp_sd (mv ν) i.toNat v) (R := (fp_rt (ν 83 42) (ν 106))) (ν 83 42).toNat 0
      have je : (fp_jn (fp_sd (mv ν) i.toNat v) (fp_rt (ν 83 42) (ν 106)) (ν 83 42)) = fp_jq (fp_sd (mv ν) i.toNat v) (fp_rt (ν 83 42) (ν 106)) (ν 83 42).toNat 0 := rfl
      have cj : am_c (fp_jn (fp_sd (mv ν) i.toNat v) (fp_rt (ν 83 42) (ν 106)) (ν 83 42)) = (fp_jn (fp_sd (mv ν) i.toNat v) (fp_rt (ν 83 42) (ν 106)) (ν 83 42)) := by rw [← je] at jb; exact am_cR (by omega) (by omega)
      have xb := fq_cu_b (fp_ftp (mv ν) (fp_rt (ν 83 42) (ν 106)) (ν 83 42) i) v.toNat
      have cx : am_c x = x := am_cR (by omega) (by omega)
      have hE : gm mQ ν (am_up μ 89 (am_c i).toNat z) := ⟨mi_up hv0 rfl, fun a b q => by (by_cases d : a = 89 ∧ b = (am_c i).toNat; (rw [am_upS, if_pos d, d.1, d.2, ei]; exact hv8); (rw [am_uE d]; exact hv1 a b q (by rw [ei] at d; exact d)))⟩
      refine am_go (ct := fun pc => Nat.beq pc 47) am_oX7_fits 300 ?_
      conv => whnf
      repeat' first
        | (refine (?_ : am_wp _ _ _ _ _ _ _ _ _ _ _ _); conv => whnf)
        | (refine (?_ : am_sw _ _ _ _); conv => whnf)
        | refine And.intro trivial ?_
        | exact trivial
        | (refine (?_ : mi _); (first | decide | assumption | omega | (rw [ci]; omega) | exact h2.1 | (intro a b q d; rw [h2.2 a b q, am_uE (by rw [ei]; exact d)]; exact hv1 a b q d) | (rw [show (v + 1).toNat = v.toNat + 1 by omega]; simp only [fq_cu]; rw [ps]; first | (rw [show decide ((fp_jn (fp_sd (mv ν) i.toNat v) (fp_rt (ν 83 42) (ν 106)) (ν 83 42)) < 0) = true from decide_eq_true (by simp only [cj, l0] at *; omega)]; show x + 1 = fq_cu _ _ + 1; rw [hv4]) | (rw [show decide ((fp_jn (fp_sd (mv ν) i.toNat v) (fp_rt (ν 83 42) (ν 106)) (ν 83 42)) < 0) = false from decide_eq_false (by simp only [cj, l0] at *; omega)]; show x = fq_cu _ _; exact hv4)) | (rw [show (v + 1).toNat = v.toNat + 1 by omega]; simp only [fq_lu]; rw [ps]; first | (rw [show decide ((fp_jn (fp_sd (mv ν) i.toNat v) (fp_rt (ν 83 42) (ν 106)) (ν 83 42)) < 0) = true from decide_eq_true (by simp only [cj, l0] at *; omega)]; show _ = (if fq_cu _ _ = 0 then _ else _); first | (rw [if_pos (by rw [← hv4]; simp only [cx] at *; omega)]; omega) | (rw [if_neg (by rw [← hv4]; simp only [cx] at *; omega)]; exact hv5)) | (rw [show decide ((fp_jn (fp_sd (mv ν) i.toNat v) (fp_rt (ν 83 42) (ν 106)) (ν 83 42)) < 0) = false from decide_eq_false (by simp only [cj, l0] at *; omega)]; show t = fq_lu _ _; exact hv5)) | (have se : v.toNat = 100 := (by rw [cv2, l99] at *; omega); rw [se] at hv4 hv5; (unfold fp_ftr; rw [e4, if_neg (by omega), if_neg (by omega)]; first | (rw [if_pos (by simp only [cw, l0] at *; omega), hv4]) | (rw [if_neg (by simp only [cw, l0] at *; omega), hv5]))) | (trace_state; fail)))
        | (have v9 : v ≤ 99 := (by rw [cv2, l99] at *; omega); refine n_wrongAt (mi_up hv0 rfl) (by rw [p2]; exact fw_sd hw ⟨hv2, v9⟩) (by rw [n42, e106]; exact hr) (fun μ2 h2 => ?_); rw [p2, n42, e106])
        | exact h2.1
        | refine kk _ _ hE ?_
        | exact hm
        | refine x_isRunnerT _ f0 f1 (fun y0 y1 => ?_) (fun y => ?_)
        | refine x_isIn w _ _ _ rfl cw ?_ ?_ (fun _ _ => ?_) (fun _ => ?_)
        | refine x_no _ ?_ (fun μr fr => ?_)
        | refine And.intro (fun h => absurd h (by omega)) (fun _ => ?_)
        | refine And.intro (fun _ => ?_) (fun h => absurd h (by omega))
        | refine kk _ _ (gm_84 (fun _ => rfl) hm fr) ?_
        | refine ih _ _ _ _ _ ?_ ?_ ?_ ?_ ?_ ?_ ?_ ?_ ?_ ?_
        | refine And.intro (fun h => absurd h (by decide)) (fun _ => ?_)
        | refine And.intro (fun _ => ?_) (fun h => absurd (by decide) h)
        | refine And.intro (fun _ => ?_) (fun _ => ?_)
        | refine And.intro ?_ ?_
      all_goals (first | decide | assumption | omega | (rw [ci]; omega) | exact h2.1 | (intro a b q d; rw [h2.2 a b q, am_uE (by rw [ei]; exact d)]; exact hv1 a b q d) | (rw [show (v + 1).toNat = v.toNat + 1 by omega]; simp only [fq_cu]; rw [ps]; first | (rw [show decide ((fp_jn (fp_sd (mv ν) i.toNat v) (fp_rt (ν 83 42) (ν 106)) (ν 83 42)) < 0) = true from decide_eq_true (by simp only [cj, l0] at *; omega)]; show x + 1 = fq_cu _ _ + 1; rw [hv4]) | (rw [show decide ((fp_jn (fp_sd (mv ν) i.toNat v) (fp_rt (ν 83 42) (ν 106)) (ν 83 42)) < 0) = false from decide_eq_false (by simp only [cj, l0] at *; omega)]; show x = fq_cu _ _; exact hv4)) | (rw [show (v + 1).toNat = v.toNat + 1 by omega]; simp only [fq_lu]; rw [ps]; first | (rw [show decide ((fp_jn (fp_sd (mv ν) i.toNat v) (fp_rt (ν 83 42) (ν 106)) (ν 83 42)) < 0) = true from decide_eq_true (by simp only [cj, l0] at *; omega)]; show _ = (if fq_cu _ _ = 0 then _ else _); first | (rw [if_pos (by rw [← hv4]; simp only [cx] at *; omega)]; omega) | (rw [if_neg (by rw [← hv4]; simp only [cx] at *; omega)]; exact hv5)) | (rw [show decide ((fp_jn (fp_sd (mv ν) i.toNat v) (fp_rt (ν 83 42) (ν 106)) (ν 83 42)) < 0) = false from decide_eq_false (by simp only [cj, l0] at *; omega)]; show t = fq_lu _ _; exact hv5)) | (have se : v.toNat = 100 := (by rw [cv2, l99] at *; omega); rw [se] at hv4 hv5; (unfold fp_ftr; rw [e4, if_neg (by omega), if_neg (by omega)]; first | (rw [if_pos (by simp only [cw, l0] at *; omega), hv4]) | (rw [if_neg (by simp only [cw, l0] at *; omega), hv5]))) | (trace_state; fail))
  have lp47' : ∀ (z x t v : Int) (μ : am_N) , mi μ → (∀ a b, mQ a b = false → ¬(a = 89 ∧ b = i.toNat) → μ a b = ν a b) → 0 ≤ v → v ≤ 100 → x = fq_cu (fp_ftp (mv ν) (fp_rt (ν 83 42) (ν 106)) (ν 83 42) i) v.toNat → t = fq_lu (fp_ftp (mv ν) (fp_rt (ν 83 42) (ν 106)) (ν 83 42) i) v.toNat → (0 ≤ i ∧ i < ν 83 14) → (w = 0 ∨ w = 1) → z = ν 89 i.toNat → am_AW l 0 (fun _ => 0) 246 Q 47 [some (.inr (.inr 83)), some (.inl i), some (.inl w), some (.inl z), some (.inl x), some (.inl t), some (.inl v)] [] μ := fun z x t v μ hv0 hv1 hv2 hv3 hv4 hv5 hv6 hv7 hv8 => lp47 ((100 - v) + 1).toNat z x t v μ hv0 hv1 hv2 hv3 hv4 hv5 hv6 hv7 hv8 (by omega)
  refine am_go (ct := fun pc => Nat.beq pc 47) am_oX7_fits 300 ?_
  conv => whnf
  repeat' first
    | (refine (?_ : am_wp _ _ _ _ _ _ _ _ _ _ _ _); conv => whnf)
    | (refine (?_ : am_sw _ _ _ _); conv => whnf)
    | refine And.intro trivial ?_
    | exact trivial
    | (refine (?_ : mi _); (first | decide | assumption | omega | rfl | (intros; rfl) | (rw [ci]; omega) | (rw [ei]) | (unfold fp_ftr; rw [e4, if_pos (by omega)]; done) | (unfold fp_ftr; rw [e4, if_neg (by omega), if_pos (by omega)]; done) | (trace_state; fail)))
    | exact hm
    | refine x_isRunnerT _ f0 f1 (fun y0 y1 => ?_) (fun y => ?_)
    | refine x_isIn w _ _ _ rfl cw ?_ ?_ (fun _ _ => ?_) (fun _ => ?_)
    | refine x_no _ ?_ (fun μr fr => ?_)
    | refine And.intro (fun h => absurd h (by omega)) (fun _ => ?_)
    | refine And.intro (fun _ => ?_) (fun h => absurd h (by omega))
    | refine kk _ _ (gm_84 (fun _ => rfl) hm fr) ?_
    | refine lp47' _ _ _ _ _ ?_ ?_ ?_ ?_ ?_ ?_ ?_ ?_ ?_
    | refine And.intro (fun h => absurd h (by decide)) (fun _ => ?_)
    | refine And.intro (fun _ => ?_) (fun h => absurd (by decide) h)
    | refine And.intro (fun _ => ?_) (fun _ => ?_)
    | refine And.intro ?_ ?_
  all_goals (first | decide | assumption | omega | rfl | (intros; rfl) | (rw [ci]; omega) | (rw [ei]) | (unfold fp_ftr; rw [e4, if_pos (by omega)]; done) | (unfold fp_ftr; rw [e4, if_neg (by omega), if_pos (by omega)]; done) | (trace_state; fail))
