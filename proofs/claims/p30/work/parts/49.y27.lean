/-! told times looked at -/
/-- a field in another WEEK, with one of another kind and figure -/
def fp_wk (F : am_N) (w : Int) : am_N := fp_ct (am_up F 0 1 w)
def fp_kf (F : am_N) (i : Nat) (q g : Int) : am_N := fp_ct (am_up (am_up F 1 i q) 2 i g)
theorem fw_kf {W : Int} {F : am_N} {i : Nat} {q g : Int} (h : fp_fw W F) (hq : 0 ≤ q ∧ q ≤ 5) (hg : 0 ≤ g ∧ g ≤ 9) : fp_fw W (fp_kf F i q g) := fw_ct (fw_kind h hq hg)
theorem fw_wk {W V : Int} {F : am_N} {w : Int} (h : fp_fw W F) (hw : 0 ≤ w ∧ w ≤ V) : fp_fw V (fp_wk F w) := by
  refine fw_ct ?_
  obtain ⟨h0, h1, h2, h3, h4, h5, h6⟩ := h
  have e : ∀ b : Nat, b ≠ 1 → am_up F 0 1 w 0 b = F 0 b := fun b z => am_upM z
  have ea : ∀ a b : Nat, 0 < a → am_up F 0 1 w a b = F a b := fun a b z => am_upN (by omega)
  have e1 : am_up F 0 1 w 0 1 = w := if_pos ⟨rfl, rfl⟩
  unfold fp_fw
  rw [e 0 (by decide), e1, e 2 (by decide), e 3 (by decide), e 4 (by decide)]
  refine ⟨h0, hw, h2, h3, h4, fun j hj => ?_, fun j hj => ?_⟩
  · rw [ea 5 j (by decide)]; exact h5 j hj
  · rw [ea 1 j (by decide), ea 2 j (by decide), ea 3 j (by decide), ea 4 j (by decide)]; exact h6 j hj
/-- whether it takes the told times from week W on, m of them from k on -/
def fp_tk (F : am_N) (r : Nat) (W : Int) (T : Nat → Int) : Nat → Nat → Bool
  | 0, _ => true
  | m + 1, k => if fp_tf (fp_wk F (W + (k : Int))) r = T k then fp_tk F r W T m (k + 1) else false
theorem fp_tk_s {F : am_N} {r : Nat} {W n k : Int} {T : Nat → Int} (k0 : 0 ≤ k) (h : k < n) : fp_tk F r W T (n - k).toNat k.toNat = if fp_tf (fp_wk F (W + k)) r = T k.toNat then fp_tk F r W T (n - (k + 1)).toNat (k + 1).toNat else false := by
  rw [show (n - k).toNat = (n - (k + 1)).toNat + 1 by omega, show (k + 1).toNat = k.toNat + 1 by omega]
  simp only [fp_tk]
  rw [Int.toNat_of_nonneg k0]
def fp_tn (F : am_N) (r : Nat) (W : Int) (T : Nat → Int) (n : Int) : Bool := fp_tk F r W T n.toNat 0
def fp_psp (F : am_N) (T : Nat → Int) (n i : Int) : Nat → Bool := fun s => fp_tn (fp_kf F i.toNat ((s : Int) / 10) ((s : Int) % 10)) i.toNat (F 0 1) T n
def fp_psr (F : am_N) (T : Nat → Int) (n i w : Int) : Int := if ¬(0 ≤ i ∧ i < F 0 4) then -1 else if ¬(w = 0 ∨ w = 1) then -2 else if w = 0 then fq_cu (fp_psp F T n i) 60 else fq_lu (fp_psp F T n i) 60
theorem fq_d60 {P : Nat → Bool} {s : Int} (h0 : 0 ≤ s) (h1 : s ≤ 59) : fq_cd P 60 (59 - (s + -1)).toNat = (bif P s.toNat then fq_cd P 60 (59 - s).toNat + 1 else fq_cd P 60 (59 - s).toNat) ∧ fq_ld P 60 (59 - (s + -1)).toNat = (bif P s.toNat then s else fq_ld P 60 (59 - s).toNat) := by
  rw [show (59 - (s + -1)).toNat = (59 - s).toNat + 1 by omega]
  simp only [fq_cd, fq_ld]
  rw [show 60 - ((59 - s).toNat + 1) = s.toNat by omega, Int.toNat_of_nonneg h0]
  exact ⟨rfl, rfl⟩
theorem fv_kfw {μ ν : am_N} {i : Nat} {q g v : Int} (h : ∀ a b : Nat, ¬(a = 8 ∧ b = 1) → ¬(a = 9 ∧ b = i) → ¬(a = 10 ∧ b = i) → 8 ≤ a → a < 15 → μ a b = ν a b) : fv (am_up (am_up (am_up μ 9 i q) 10 i g) 8 1 v) 8 = fv (am_up (am_up (am_up ν 9 i q) 10 i g) 8 1 v) 8 := by
  have e : ∀ a b : Nat, 8 ≤ a → a < 15 → am_up (am_up (am_up μ 9 i q) 10 i g) 8 1 v a b = am_up (am_up (am_up ν 9 i q) 10 i g) 8 1 v a b := by
    intro a b h0 h1
    by_cases d8 : a = 8 ∧ b = 1
    · rw [am_upS, if_pos d8, am_upS, if_pos d8]
    rw [am_uE d8, am_uE d8]
    by_cases d10 : a = 10 ∧ b = i
    · rw [am_upS, if_pos d10, am_upS, if_pos d10]
    rw [am_uE d10, am_uE d10]
    by_cases d9 : a = 9 ∧ b = i
    · rw [am_upS, if_pos d9, am_upS, if_pos d9]
    rw [am_uE d9, am_uE d9]
    exact h a b d8 d9 d10 h0 h1
  exact fp_ct_e (fun b hb => e (8 + 0) b (by decide) (by decide)) (fun a b q1 q2 hb => e (8 + a) b (by omega) (by omega))
theorem fv_kf0 {μ : am_N} {G : am_N} {i : Nat} {q g v : Int} (h : fv μ 8 = G) : fv (am_up (am_up (am_up μ 9 i q) 10 i g) 8 1 v) 8 = fp_wk (fp_kf G i q g) v := by
  rw [show fv (am_up (am_up (am_up μ 9 i q) 10 i g) 8 1 v) 8 = fp_ct (am_up (fv (am_up (am_up μ 9 i q) 10 i g) 8) 0 1 v) from fv_up0, show fv (am_up (am_up μ 9 i q) 10 i g) 8 = fp_ct (am_up (fv (am_up μ 9 i q) 8) 2 i g) from fv_up (c := 8) (a := 2) (by decide), show fv (am_up μ 9 i q) 8 = fp_ct (am_up (fv μ 8) 1 i q) from fv_up (c := 8) (a := 1) (by decide), h, fp_ct2 (F := am_up G 1 i q) (k := 2)]
  rfl

theorem x_at_46 {l : Launch} {ν : am_N} {Q : Option am_V → am_N → Prop} (i : Int) (i0 : 0 ≤ i) (i1 : i < ν 46 1) (n1 : ν 46 1 ≤ 6) (k : Q (some (.inl (ν 47 i.toNat))) ν) : am_Does l 43 [.inr (.inr 46), .inl i] ν Q := by
  refine am_Does_of (Nat.le_of_ble_eq_true rfl) (Nat.le_of_ble_eq_true rfl) (Nat.le_of_ble_eq_true rfl) ?_
  have l0 : am_c 0 = 0 := rfl
  have l1 : am_c 1 = 1 := rfl
  have l6 : am_c 6 = 6 := rfl
  have l10 : am_c 10 = 10 := rfl
  have l60 : am_c 60 = 60 := rfl
  have ci : am_c i = i := am_cR (by omega) (by omega)
  have cn : am_c (ν 46 1) = ν 46 1 := am_cR (by omega) (by omega)
  have ei : (am_c i).toNat = i.toNat := by rw [ci]
  refine am_go (ct := fun _ => false) am_oX3_at 300 ?_
  conv => whnf
  repeat' first
    | (refine (?_ : am_wp _ _ _ _ _ _ _ _ _ _ _ _); conv => whnf)
    | (refine (?_ : am_sw _ _ _ _); conv => whnf)
    | refine And.intro trivial ?_
    | exact trivial
    | refine am_qe k ?_
    | refine And.intro (fun z => absurd z (by rw [ci]; omega)) (fun _ => ?_)
    | refine And.intro (fun z => absurd z (by rw [ci, cn]; omega)) (fun _ => ?_)
    | refine And.intro (fun h => absurd h (by decide)) (fun _ => ?_)
    | refine And.intro (fun _ => ?_) (fun h => absurd (by decide) h)
    | refine And.intro (fun _ => ?_) (fun _ => ?_)
    | refine And.intro ?_ ?_
  all_goals (first | decide | omega | (rw [ci]; omega) | (rw [ei]) | (trace_state; fail))
theorem s_tookThese {l : Launch} {ν : am_N} {Q : Option am_V → am_N → Prop} (G : am_N) (r : Int) (hw : fp_fw 999 G) (hG : ∀ v : Int, fv (am_up ν 8 1 v) 8 = fp_wk G v) (w0 : 0 ≤ ν 1 1) (w1 : ν 1 1 ≤ 999) (r0 : 0 ≤ r) (r1 : r < ν 8 4) (n0 : 0 ≤ ν 46 1) (n1 : ν 46 1 ≤ 6) (hr : ∀ b : Nat, (b : Int) < ν 46 1 → 0 ≤ ν 47 b ∧ ν 47 b ≤ 999) (k1 : fp_tn G r.toNat (ν 1 1) (fp_rt (ν 46 1) (ν 47)) (ν 46 1) = true → ∀ μ' : am_N, (∀ a b, ¬(a = 8 ∧ b = 1) → μ' a b = ν a b) → Q (some (.inl 1)) μ') (k0 : fp_tn G r.toNat (ν 1 1) (fp_rt (ν 46 1) (ν 47)) (ν 46 1) = false → ∀ μ' : am_N, (∀ a b, ¬(a = 8 ∧ b = 1) → μ' a b = ν a b) → Q (some (.inl 0)) μ') : am_Does l 139 [.inr (.inr 0), .inl r] ν Q := by
  refine am_Does_of (Nat.le_of_ble_eq_true rfl) (Nat.le_of_ble_eq_true rfl) (Nat.le_of_ble_eq_true rfl) ?_
  have l0 : am_c 0 = 0 := rfl
  have l1 : am_c 1 = 1 := rfl
  have l6 : am_c 6 = 6 := rfl
  have l10 : am_c 10 = 10 := rfl
  have l60 : am_c 60 = 60 := rfl
  have cn : am_c (ν 46 1) = ν 46 1 := am_cR (by omega) (by omega)
  have e8 : ∀ v : Int, fp_wk G v 0 4 = ν 8 4 := fun v => by rw [← hG v, fv_0 (by decide)]; exact am_upM (by decide)
  have lp2 : ∀ (m : Nat) (i : Int) (μ : am_N) , (∀ a b, ¬(a = 8 ∧ b = 1) → μ a b = ν a b) → 0 ≤ i → i ≤ ν 46 1 → fp_tk G r.toNat (ν 1 1) (fp_rt (ν 46 1) (ν 47)) (ν 46 1 - i).toNat i.toNat = fp_tn G r.toNat (ν 1 1) (fp_rt (ν 46 1) (ν 47)) (ν 46 1) → ν 46 1 - i < (m : Int) → am_AW l 0 (fun _ => 0) 139 Q 2 [some (.inr (.inr 0)), some (.inl r), some (.inl i)] [] μ := by
    intro m
    induction m with
    | zero =>
      intro i μ hv0 hv1 hv2 hv3 hm
      exfalso
      omega
    | succ m ih =>
      intro i μ hv0 hv1 hv2 hv3 hm
      have ci : am_c i = i := am_cR (by omega) (by omega)
      have e46 : μ 46 1 = ν 46 1 := hv0 46 1 (by omega)
      have e11 : μ 1 1 = ν 1 1 := hv0 1 1 (by omega)
      have js := fun q : i < ν 46 1 => fp_tk_s (F := G) (r := r.toNat) (W := ν 1 1) (T := fp_rt (ν 46 1) (ν 47)) hv1 q
      have pw : fv (am_up μ 8 1 (μ 1 1 + i)) 8 = fp_wk G (ν 1 1 + i) := by
        rw [← hG, e11]
        refine fp_ct_e (fun b hb => ?_) (fun a b q1 q2 hb => ?_)
        · by_cases d : b = 1
          · subst d; rfl
          · rw [am_upM d, am_upM d]; exact hv0 8 b (fun z => d z.2)
        · rw [am_upN (by omega), am_upN (by omega)]; exact hv0 (8 + a) b (by omega)
      refine am_go (ct := fun pc => Nat.beq pc 2) am_oX6_tookThese 300 ?_
      conv => whnf
      repeat' first
        | (refine (?_ : am_wp _ _ _ _ _ _ _ _ _ _ _ _); conv => whnf)
        | (refine (?_ : am_sw _ _ _ _); conv => whnf)
        | refine And.intro trivial ?_
        | exact trivial
        | (have hi : i < ν 46 1 := (by (simp only [ci, e46, cn] at *; first | done | omega)); have fw : fp_fw 1100 (fp_wk G (ν 1 1 + i)) := fw_wk hw ⟨by omega, by omega⟩; have hf8 := (fw_C (by rw [pw]; exact fw) (by decide)).1; have n8 : am_up μ 8 1 (μ 1 1 + i) 8 4 = ν 8 4 := (by rw [← fv_0 (μ := am_up μ 8 1 (μ 1 1 + i)) (c := 8) (b := 4) (by decide), pw]; exact e8 _); have tb := am_TC_b (i := r.toNat) hf8 (by rw [n8]; omega); have et : am_TC (am_up μ 8 1 (μ 1 1 + i)) 8 r.toNat = fp_tf (fp_wk G (ν 1 1 + i)) r.toNat := (by rw [fv_T (by rw [← n8] at r1; have z := hf8.1; omega), pw]); refine x_tenths_8 r r0 (by rw [n8]; exact r1) hf8 ?_; rw [et]; rw [et] at tb; have ct : am_c (fp_tf (fp_wk G (ν 1 1 + i)) r.toNat) = fp_tf (fp_wk G (ν 1 1 + i)) r.toNat := am_cR (by omega) (by omega); have rb := hr i.toNat (by omega); have cr : am_c (ν 47 i.toNat) = ν 47 i.toNat := am_cR (by omega) (by omega); have m46 : am_up μ 8 1 (μ 1 1 + i) 46 1 = ν 46 1 := (am_upN (by decide)).trans e46; have m47 : am_up μ 8 1 (μ 1 1 + i) 47 i.toNat = ν 47 i.toNat := (am_upN (by decide)).trans (hv0 47 _ (by omega)); have fr : ∀ a b, ¬(a = 8 ∧ b = 1) → am_up μ 8 1 (μ 1 1 + i) a b = ν a b := (fun a b q => (am_uE q).trans (hv0 a b q)))
        | (refine x_at_46 i hv1 (by rw [m46]; exact hi) (by rw [m46]; exact n1) ?_; rw [m47])
        | refine k1 ?_ _ hv0
        | refine k0 ?_ _ fr
        | refine ih _ _ fr ?_ ?_ ?_ ?_
        | refine ih _ _ ?_ ?_ ?_ ?_ ?_
        | refine And.intro (fun h => absurd h (by decide)) (fun _ => ?_)
        | refine And.intro (fun _ => ?_) (fun h => absurd (by decide) h)
        | refine And.intro (fun _ => ?_) (fun _ => ?_)
        | refine And.intro ?_ ?_
      all_goals (first | decide | assumption | omega | (rw [← hv3, js hi, if_pos (by rw [fp_rt_i (by omega)]; (simp only [ct, cr] at *; first | done | omega))]) | (rw [← hv3, js hi, if_neg (by rw [fp_rt_i (by omega)]; (simp only [ct, cr] at *; first | done | omega))]) | (rw [← hv3, show (ν 46 1 - i).toNat = 0 by (simp only [ci, e46, cn] at *; first | done | omega)]; rfl) | (trace_state; fail))
  have lp2' : ∀ (i : Int) (μ : am_N) , (∀ a b, ¬(a = 8 ∧ b = 1) → μ a b = ν a b) → 0 ≤ i → i ≤ ν 46 1 → fp_tk G r.toNat (ν 1 1) (fp_rt (ν 46 1) (ν 47)) (ν 46 1 - i).toNat i.toNat = fp_tn G r.toNat (ν 1 1) (fp_rt (ν 46 1) (ν 47)) (ν 46 1) → am_AW l 0 (fun _ => 0) 139 Q 2 [some (.inr (.inr 0)), some (.inl r), some (.inl i)] [] μ := fun i μ hv0 hv1 hv2 hv3 => lp2 ((ν 46 1 - i) + 1).toNat i μ hv0 hv1 hv2 hv3 (by omega)
  refine am_go (ct := fun pc => Nat.beq pc 2) am_oX6_tookThese 300 ?_
  conv => whnf
  repeat' first
    | (refine (?_ : am_wp _ _ _ _ _ _ _ _ _ _ _ _); conv => whnf)
    | (refine (?_ : am_sw _ _ _ _); conv => whnf)
    | refine And.intro trivial ?_
    | exact trivial
    | refine lp2' _ _ ?_ ?_ ?_ ?_
    | refine And.intro (fun h => absurd h (by decide)) (fun _ => ?_)
    | refine And.intro (fun _ => ?_) (fun h => absurd (by decide) h)
    | refine And.intro (fun _ => ?_) (fun _ => ?_)
    | refine And.intro ?_ ?_
  all_goals (first | decide | assumption | omega | rfl | (intros; rfl) | (rw [show (ν 46 1 - 0).toNat = (ν 46 1).toNat by omega]; rfl) | (trace_state; fail))
theorem s_past {l : Launch} {ν : am_N} {Q : Option am_V → am_N → Prop} (i w : Int) (ci : am_c i = i) (cw : am_c w = w) (hS : sx ν ν) (hw : fp_fw 999 (fv ν 1)) (hr : ∀ b : Nat, (b : Int) < ν 46 1 → 0 ≤ ν 47 b ∧ ν 47 b ≤ 999) (k : ∀ μ' : am_N, sx ν μ' → Q (some (.inl (fp_psr (fv ν 1) (fp_rt (ν 46 1) (ν 47)) (ν 46 1) i w))) μ') : am_Does l 108 [.inr (.inr 0), .inl i, .inl w] ν Q := by
  refine am_Does_of (Nat.le_of_ble_eq_true rfl) (Nat.le_of_ble_eq_true rfl) (Nat.le_of_ble_eq_true rfl) ?_
  have l0 : am_c 0 = 0 := rfl
  have l1 : am_c 1 = 1 := rfl
  have l6 : am_c 6 = 6 := rfl
  have l10 : am_c 10 = 10 := rfl
  have l60 : am_c 60 = 60 := rfl
  have m1' : am_c (-1) = -1 := rfl
  have m2' : am_c (-2) = -2 := rfl
  have m9' : am_c (-9) = -9 := rfl
  obtain ⟨hf, -, -, -, -, hweek, -⟩ := fw_C hw (by decide)
  have f0 := hf.1.1
  have f1 := hf.1.2
  have e4 : fv ν 1 0 4 = ν 1 4 := fv_0 (by decide)
  have e1 : fv ν 1 0 1 = ν 1 1 := fv_0 (by decide)
  have h15 := hS.2.2.2.1
  have hb := sx_all hS
  have n46 : 0 ≤ ν 46 1 ∧ ν 46 1 ≤ 6 := by omega
  clear hb
  have ei : (am_c i).toNat = i.toNat := by rw [ci]
  have kk := fun (x : Int) (μ' : am_N) (h : sx ν μ') (e : x = fp_psr (fv ν 1) (fp_rt (ν 46 1) (ν 47)) (ν 46 1) i w) => am_qe (k μ' h) e
  have lp52 : ∀ (m : Nat) (x y s : Int) (μ : am_N) , (∀ a b, ¬(8 ≤ a ∧ a < 15) → μ a b = ν a b) → -1 ≤ s → s ≤ 59 → x = fq_cd (fp_psp (fv ν 1) (fp_rt (ν 46 1) (ν 47)) (ν 46 1) i) 60 (59 - s).toNat → y = fq_ld (fp_psp (fv ν 1) (fp_rt (ν 46 1) (ν 47)) (ν 46 1) i) 60 (59 - s).toNat → μ 8 4 = ν 1 4 → (∀ q g v : Int, fv (am_up (am_up (am_up μ 9 i.toNat q) 10 i.toNat g) 8 1 v) 8 = fp_wk (fp_kf (fv ν 1) i.toNat q g) v) → (0 ≤ i ∧ i < ν 1 4) → (w = 0 ∨ w = 1) → s + 1 < (m : Int) → am_AW l 0 (fun _ => 0) 108 Q 52 [some (.inr (.inr 0)), some (.inl i), some (.inl w), some (.inl x), some (.inl y), some (.inl s)] [] μ := by
    intro m
    induction m with
    | zero =>
      intro x y s μ hv0 hv1 hv2 hv3 hv4 hv5 hv6 hv7 hv8 hm
      exfalso
      omega
    | succ m ih =>
      intro x y s μ hv0 hv1 hv2 hv3 hv4 hv5 hv6 hv7 hv8 hm
      have cs : am_c s = s := am_cR (by omega) (by omega)
      have sE : sx ν μ := sx_lt hS (fun a b q1 _ _ _ _ => hv0 a b q1) (fun p hp => by rw [hv0 34 p (by omega)]; exact hS.2.1 p hp) (by rw [hv5]; exact ⟨f0, f1⟩) (by rw [hv0 29 0 (by omega)]; exact h15.2.2.1)
      have dn := fun q : 0 ≤ s => fq_d60 (P := (fp_psp (fv ν 1) (fp_rt (ν 46 1) (ν 47)) (ν 46 1) i)) q hv2
      have sd := fun q : 0 ≤ s => (show (am_c s).tdiv (am_c 10) = s / 10 by rw [cs, l10, Int.tdiv_eq_ediv_of_nonneg q])
      have sm := fun q : 0 ≤ s => (show (am_c s).tmod (am_c 10) = s % 10 by rw [cs, l10, Int.tmod_eq_emod_of_nonneg q])
      refine am_go (ct := fun pc => Nat.beq pc 52) am_oX6_past 300 ?_
      conv => whnf
      repeat' first
        | (refine (?_ : am_wp _ _ _ _ _ _ _ _ _ _ _ _); conv => whnf)
        | (refine (?_ : am_sw _ _ _ _); conv => whnf)
        | refine And.intro trivial ?_
        | exact trivial
        | (have s0 : 0 ≤ s := (by (simp only [cs, l0] at *; first | done | omega)); rw [sd s0, sm s0, ei]; have g8 : am_up (am_up μ 9 i.toNat (s / 10)) 10 i.toNat (s % 10) 8 4 = ν 1 4 := ((am_upN (by decide)).trans (am_upN (by decide))).trans hv5; have gk : ∀ a b, ¬(8 ≤ a ∧ a < 15) → am_up (am_up μ 9 i.toNat (s / 10)) 10 i.toNat (s % 10) a b = ν a b := (fun a b q => (am_upN (by omega)).trans ((am_upN (by omega)).trans (hv0 a b q))); have g47 : am_up (am_up μ 9 i.toNat (s / 10)) 10 i.toNat (s % 10) 47 = ν 47 := funext (fun b => gk 47 b (by omega)); have ps : (fp_psp (fv ν 1) (fp_rt (ν 46 1) (ν 47)) (ν 46 1) i) s.toNat = fp_tn (fp_kf (fv ν 1) i.toNat (s / 10) (s % 10)) i.toNat (ν 1 1) (fp_rt (ν 46 1) (ν 47)) (ν 46 1) := (by unfold fp_psp; rw [Int.toNat_of_nonneg s0, e1]); refine s_tookThese (fp_kf (fv ν 1) i.toNat (s / 10) (s % 10)) i (fw_kf hw ⟨by omega, by omega⟩ ⟨by omega, by omega⟩) (fun v => hv6 _ _ v) (by rw [gk 1 1 (by omega)]; exact hweek.1) (by rw [gk 1 1 (by omega)]; exact hweek.2) hv7.1 (by rw [g8]; exact hv7.2) (by rw [gk 46 1 (by omega)]; exact n46.1) (by rw [gk 46 1 (by omega)]; exact n46.2) (by rw [gk 46 1 (by omega), g47]; exact hr) (fun y1 μ2 g2 => ?_) (fun y0 μ2 g2 => ?_))
        | refine kk _ _ sE ?_
        | refine x_has1 _ f0 f1 (fun y0 y1 => ?_) (fun y => ?_)
        | refine x_refuse _ ?_ (fun μr fr => ?_)
        | refine x_noPart _ cw (fun z => ?_) (fun z => ?_)
        | (refine x_take_8_1 (fun μ1 g1 s1 r1 => ?_); have p1 : fv μ1 8 = fv ν 1 := fv_tk s1 r1)
        | refine kk _ _ (sx_78 hS fr) ?_
        | refine ih _ _ _ _ ?_ ?_ ?_ ?_ ?_ ?_ ?_ ?_ ?_ ?_
        | refine And.intro (fun h => absurd h (by decide)) (fun _ => ?_)
        | refine And.intro (fun _ => ?_) (fun h => absurd (by decide) h)
        | refine And.intro (fun _ => ?_) (fun _ => ?_)
        | refine And.intro ?_ ?_
      all_goals (first | decide | assumption | omega | (rw [ci]; omega) | (intro a b q; rw [g2 a b (by omega)]; exact gk a b q) | (rw [g2 8 4 (by omega)]; exact g8) | (intro q g v; rw [← hv6 q g v]; refine fv_kfw (fun a b d8 d9 d10 _ _ => ?_); rw [g2 a b d8]; exact (am_uE d10).trans (am_uE d9)) | (have y1 := y1; rw [gk 1 1 (by omega), gk 46 1 (by omega), g47, ← ps] at y1; first | (rw [(dn s0).1, y1, hv3]; rfl) | (rw [(dn s0).2, y1]; rfl)) | (have y0 := y0; rw [gk 1 1 (by omega), gk 46 1 (by omega), g47, ← ps] at y0; first | (rw [(dn s0).1, y0, hv3]; rfl) | (rw [(dn s0).2, y0, hv4]; rfl)) | (have se : (59 - s).toNat = 60 := (by (simp only [cs, l0] at *; first | done | omega)); rw [se] at hv3 hv4; (unfold fp_psr; rw [e4, if_neg (by omega), if_neg (by omega)]; first | (rw [if_pos (by (simp only [cw, l0] at *; first | done | omega)), hv3, fq_c_N]) | (rw [if_neg (by (simp only [cw, l0] at *; first | done | omega)), hv4, fq_l_N]))) | (trace_state; fail))
  have lp52' : ∀ (x y s : Int) (μ : am_N) , (∀ a b, ¬(8 ≤ a ∧ a < 15) → μ a b = ν a b) → -1 ≤ s → s ≤ 59 → x = fq_cd (fp_psp (fv ν 1) (fp_rt (ν 46 1) (ν 47)) (ν 46 1) i) 60 (59 - s).toNat → y = fq_ld (fp_psp (fv ν 1) (fp_rt (ν 46 1) (ν 47)) (ν 46 1) i) 60 (59 - s).toNat → μ 8 4 = ν 1 4 → (∀ q g v : Int, fv (am_up (am_up (am_up μ 9 i.toNat q) 10 i.toNat g) 8 1 v) 8 = fp_wk (fp_kf (fv ν 1) i.toNat q g) v) → (0 ≤ i ∧ i < ν 1 4) → (w = 0 ∨ w = 1) → am_AW l 0 (fun _ => 0) 108 Q 52 [some (.inr (.inr 0)), some (.inl i), some (.inl w), some (.inl x), some (.inl y), some (.inl s)] [] μ := fun x y s μ hv0 hv1 hv2 hv3 hv4 hv5 hv6 hv7 hv8 => lp52 ((s + 1) + 1).toNat x y s μ hv0 hv1 hv2 hv3 hv4 hv5 hv6 hv7 hv8 (by omega)
  refine am_go (ct := fun pc => Nat.beq pc 52) am_oX6_past 300 ?_
  conv => whnf
  repeat' first
    | (refine (?_ : am_wp _ _ _ _ _ _ _ _ _ _ _ _); conv => whnf)
    | (refine (?_ : am_sw _ _ _ _); conv => whnf)
    | refine And.intro trivial ?_
    | exact trivial
    | refine x_has1 _ f0 f1 (fun y0 y1 => ?_) (fun y => ?_)
    | refine x_refuse _ ?_ (fun μr fr => ?_)
    | refine x_noPart _ cw (fun z => ?_) (fun z => ?_)
    | (refine x_take_8_1 (fun μ1 g1 s1 r1 => ?_); have p1 : fv μ1 8 = fv ν 1 := fv_tk s1 r1)
    | refine kk _ _ (sx_78 hS fr) ?_
    | refine lp52' _ _ _ _ ?_ ?_ ?_ ?_ ?_ ?_ ?_ ?_ ?_
    | refine And.intro (fun h => absurd h (by decide)) (fun _ => ?_)
    | refine And.intro (fun _ => ?_) (fun h => absurd (by decide) h)
    | refine And.intro (fun _ => ?_) (fun _ => ?_)
    | refine And.intro ?_ ?_
  all_goals (first | decide | assumption | omega | rfl | (intro a b q; exact g1 a b q) | exact s1 4 (by decide) | (intro q g v; exact fv_kf0 p1) | (unfold fp_psr; rw [e4, if_pos (by omega)]; done) | (unfold fp_psr; rw [e4, if_neg (by omega), if_pos (by omega)]; done) | (trace_state; fail))
theorem n_hasTimes {l : Launch} {ν : am_N} {Q : Option am_V → am_N → Prop} (r : Int) (hw : fp_fw 999 (mv ν)) (r0 : 0 ≤ r) (r1 : r < ν 83 14) (n0 : 0 ≤ ν 83 40) (n1 : ν 83 40 ≤ 6) (hr : ∀ b : Nat, (b : Int) < ν 83 40 → 0 ≤ ν 105 b ∧ ν 105 b ≤ 999) (k1 : fp_tn (mv ν) r.toNat (ν 83 11) (fp_rt (ν 83 40) (ν 105)) (ν 83 40) = true → Q (some (.inl 1)) ν) (k0 : fp_tn (mv ν) r.toNat (ν 83 11) (fp_rt (ν 83 40) (ν 105)) (ν 83 40) = false → Q (some (.inl 0)) ν) : am_Does l 242 [.inr (.inr 83), .inl r] ν Q := by
  refine am_Does_of (Nat.le_of_ble_eq_true rfl) (Nat.le_of_ble_eq_true rfl) (Nat.le_of_ble_eq_true rfl) ?_
  have l0 : am_c 0 = 0 := rfl
  have l1 : am_c 1 = 1 := rfl
  have l6 : am_c 6 = 6 := rfl
  have l10 : am_c 10 = 10 := rfl
  have l60 : am_c 60 = 60 := rfl
  have cn : am_c (ν 83 40) = ν 83 40 := am_cR (by omega) (by omega)
  have w := hw.2.1
  have ew : mv ν 0 1 = ν 83 11 := rfl
  have bk : ∀ (μ : am_N) (v : Int), (∀ a b, ¬(a = 83 ∧ b = 11) → μ a b = ν a b) → v = ν 83 11 → am_up μ 83 11 v = ν := fun μ v h e => funext (fun a => funext (fun b => by
    by_cases d : a = 83 ∧ b = 11
    · rw [am_upS, if_pos d, d.1, d.2, e]
    · rw [am_uE d]; exact h a b d))
  have qx : ∀ (μ : am_N) (x v : Int), (∀ a b, ¬(a = 83 ∧ b = 11) → μ a b = ν a b) → v = ν 83 11 → (x = 1 ∧ fp_tn (mv ν) r.toNat (ν 83 11) (fp_rt (ν 83 40) (ν 105)) (ν 83 40) = true ∨ x = 0 ∧ fp_tn (mv ν) r.toNat (ν 83 11) (fp_rt (ν 83 40) (ν 105)) (ν 83 40) = false) → Q (some (.inl x)) (am_up μ 83 11 v) := fun μ x v h e y => by
    rw [bk μ v h e]
    rcases y with y | y
    · rw [y.1]; exact k1 y.2
    · rw [y.1]; exact k0 y.2
  have lp10 : ∀ (m : Nat) (x z i : Int) (μ : am_N) , (∀ a b, ¬(a = 83 ∧ b = 11) → μ a b = ν a b) → 0 ≤ i → i ≤ ν 83 40 → z = ν 83 11 → μ 83 11 = ν 83 11 + i → (x = 1 ∧ fp_tk (mv ν) r.toNat (ν 83 11) (fp_rt (ν 83 40) (ν 105)) (ν 83 40 - i).toNat i.toNat = fp_tn (mv ν) r.toNat (ν 83 11) (fp_rt (ν 83 40) (ν 105)) (ν 83 40)) ∨ (x = 0 ∧ fp_tn (mv ν) r.toNat (ν 83 11) (fp_rt (ν 83 40) (ν 105)) (ν 83 40) = false) → ν 83 40 - i < (m : Int) → am_AW l 0 (fun _ => 0) 242 Q 10 [some (.inr (.inr 83)), some (.inl r), some (.inl x), some (.inl z), some (.inl i)] [] μ := by
    intro m
    induction m with
    | zero =>
      intro x z i μ hv0 hv1 hv2 hv3 hv4 hv5 hm
      exfalso
      omega
    | succ m ih =>
      intro x z i μ hv0 hv1 hv2 hv3 hv4 hv5 hm
      have ci : am_c i = i := am_cR (by omega) (by omega)
      have e40 : μ 83 40 = ν 83 40 := hv0 83 40 (by omega)
      have js := fun q : i < ν 83 40 => fp_tk_s (F := (mv ν)) (r := r.toNat) (W := ν 83 11) (T := fp_rt (ν 83 40) (ν 105)) hv1 q
      have cx : am_c x = x := by rcases hv5 with y | y <;> (rw [y.1]; rfl)
      have pw : mv μ = fp_wk (mv ν) (ν 83 11 + i) := by
        refine fp_ct_e (fun b hb => ?_) (fun a b q1 q2 hb => ?_)
        · by_cases d : b = 1
          · subst d; exact hv4
          · rw [am_upM d, mv_0 hb]; exact hv0 83 (10 + b) (by omega)
        · rw [am_upN (by omega)]
          obtain ⟨a, rfl⟩ : ∃ y, a = y + 1 := ⟨a - 1, by omega⟩
          rw [mv_a (by omega) hb]
          exact hv0 (85 + a) b (by omega)
      have n8 : μ 83 14 = ν 83 14 := hv0 83 14 (by omega)
      refine am_go (ct := fun pc => Nat.beq pc 10) am_oX7_hasTimes 300 ?_
      conv => whnf
      repeat' first
        | (refine (?_ : am_wp _ _ _ _ _ _ _ _ _ _ _ _); conv => whnf)
        | (refine (?_ : am_sw _ _ _ _); conv => whnf)
        | refine And.intro trivial ?_
        | exact trivial
        | (have hi : i < ν 83 40 := (by (simp only [ci, e40, cn] at *; first | done | omega)); have y5 := hv5.resolve_right (fun y => by (simp only [cx, l0] at *; first | done | omega)); have fw : fp_fw 1100 (mv μ) := (by rw [pw]; exact fw_wk hw ⟨by omega, by omega⟩); have hf8 := (fw_M fw (by decide)).1; have tb := am_TM_b (i := r.toNat) hf8 (by rw [n8]; omega); have et : am_TM μ r.toNat = fp_tf (fp_wk (mv ν) (ν 83 11 + i)) r.toNat := (by rw [mv_T (by have z := hf8.1; omega), pw]); refine x_timeOf r r0 (by rw [n8]; exact r1) hf8 ?_; rw [et]; rw [et] at tb; have ct : am_c (fp_tf (fp_wk (mv ν) (ν 83 11 + i)) r.toNat) = fp_tf (fp_wk (mv ν) (ν 83 11 + i)) r.toNat := am_cR (by omega) (by omega); have e105 : μ 105 (am_c i).toNat = ν 105 i.toNat := (by rw [ci]; exact hv0 105 _ (by omega)); have rb := hr i.toNat (by omega); have cr : am_c (ν 105 i.toNat) = ν 105 i.toNat := am_cR (by omega) (by omega))
        | refine qx _ _ _ hv0 hv3 ?_
        | refine lp10' 1 _ 0 _ ?_ ?_ ?_ ?_ ?_ ?_
        | refine ih _ _ _ _ ?_ ?_ ?_ ?_ ?_ ?_ ?_
        | refine And.intro (fun h => absurd h (by decide)) (fun _ => ?_)
        | refine And.intro (fun _ => ?_) (fun h => absurd (by decide) h)
        | refine And.intro (fun _ => ?_) (fun _ => ?_)
        | refine And.intro ?_ ?_
      all_goals (first | decide | assumption | omega | (rw [ci]; (simp only [ci, e40, cn] at *; first | done | omega)) | (intro a b q; rw [am_uE q]; exact hv0 a b q) | (rw [am_upS, if_pos ⟨rfl, rfl⟩, hv4]; omega) | (first | (left; refine ⟨rfl, ?_⟩; rw [← y5.2, js hi, if_pos (by rw [fp_rt_i (by omega)]; (simp only [ct, e105, cr] at *; first | done | omega))]) | (right; refine ⟨rfl, ?_⟩; rw [← y5.2, js hi, if_neg (by rw [fp_rt_i (by omega)]; (simp only [ct, e105, cr] at *; first | done | omega))])) | (rcases hv5 with y | y; (first | (left; refine ⟨y.1, ?_⟩; rw [← y.2, show (ν 83 40 - i).toNat = 0 by (simp only [ci, e40, cn] at *; omega)]; rfl) | (exfalso; simp only [cx, y.1, l0] at *; omega)); (exact Or.inr y)) | (trace_state; fail))
  have lp10' : ∀ (x z i : Int) (μ : am_N) , (∀ a b, ¬(a = 83 ∧ b = 11) → μ a b = ν a b) → 0 ≤ i → i ≤ ν 83 40 → z = ν 83 11 → μ 83 11 = ν 83 11 + i → (x = 1 ∧ fp_tk (mv ν) r.toNat (ν 83 11) (fp_rt (ν 83 40) (ν 105)) (ν 83 40 - i).toNat i.toNat = fp_tn (mv ν) r.toNat (ν 83 11) (fp_rt (ν 83 40) (ν 105)) (ν 83 40)) ∨ (x = 0 ∧ fp_tn (mv ν) r.toNat (ν 83 11) (fp_rt (ν 83 40) (ν 105)) (ν 83 40) = false) → am_AW l 0 (fun _ => 0) 242 Q 10 [some (.inr (.inr 83)), some (.inl r), some (.inl x), some (.inl z), some (.inl i)] [] μ := fun x z i μ hv0 hv1 hv2 hv3 hv4 hv5 => lp10 ((ν 83 40 - i) + 1).toNat x z i μ hv0 hv1 hv2 hv3 hv4 hv5 (by omega)
  refine am_go (ct := fun pc => Nat.beq pc 10) am_oX7_hasTimes 300 ?_
  conv => whnf
  repeat' first
    | (refine (?_ : am_wp _ _ _ _ _ _ _ _ _ _ _ _); conv => whnf)
    | (refine (?_ : am_sw _ _ _ _); conv => whnf)
    | refine And.intro trivial ?_
    | exact trivial
    | refine lp10' 1 _ 0 _ ?_ ?_ ?_ ?_ ?_ ?_
    | refine lp10' _ _ _ _ ?_ ?_ ?_ ?_ ?_ ?_
    | refine And.intro (fun h => absurd h (by decide)) (fun _ => ?_)
    | refine And.intro (fun _ => ?_) (fun h => absurd (by decide) h)
    | refine And.intro (fun _ => ?_) (fun _ => ?_)
    | refine And.intro ?_ ?_
  all_goals (first | decide | assumption | omega | rfl | (intros; rfl) | (refine Or.inl ⟨rfl, ?_⟩; rw [show (ν 83 40 - 0).toNat = (ν 83 40).toNat by omega]; rfl) | (trace_state; fail))
theorem n_past {l : Launch} {ν : am_N} {Q : Option am_V → am_N → Prop} (i w : Int) (ci : am_c i = i) (cw : am_c w = w) (hm : mi ν) (hw : fp_fw 999 (mv ν)) (hr : ∀ b : Nat, (b : Int) < ν 83 40 → 0 ≤ ν 105 b ∧ ν 105 b ≤ 999) (k : ∀ μ' : am_N, gm ms ν μ' → Q (some (.inl (fp_psr (mv ν) (fp_rt (ν 83 40) (ν 105)) (ν 83 40) i w))) μ') : am_Does l 243 [.inr (.inr 83), .inl i, .inl w] ν Q := by
  refine am_Does_of (Nat.le_of_ble_eq_true rfl) (Nat.le_of_ble_eq_true rfl) (Nat.le_of_ble_eq_true rfl) ?_
  have l0 : am_c 0 = 0 := rfl
  have l1 : am_c 1 = 1 := rfl
  have l6 : am_c 6 = 6 := rfl
  have l10 : am_c 10 = 10 := rfl
  have l60 : am_c 60 = 60 := rfl
  have m1' : am_c (-1) = -1 := rfl
  have m2' : am_c (-2) = -2 := rfl
  have m9' : am_c (-9) = -9 := rfl
  have hm0 := hm
  obtain ⟨hf, -, -, -, -, -, -⟩ := fw_M hw (by decide)
  have f0 := hf.1.1
  have f1 := hf.1.2
  have e4 : mv ν 0 4 = ν 83 14 := rfl
  have e1 : mv ν 0 1 = ν 83 11 := rfl
  have hb := mi_all hm
  have n40 : 0 ≤ ν 83 40 ∧ ν 83 40 ≤ 6 := by omega
  clear hb
  have ei : (am_c i).toNat = i.toNat := by rw [ci]
  have kk := fun (x : Int) (μ' : am_N) (h : gm ms ν μ') (e : x = fp_psr (mv ν) (fp_rt (ν 83 40) (ν 105)) (ν 83 40) i w) => am_qe (k μ' h) e
  have p2 : ∀ q g : Int, mv (am_up (am_up ν 85 i.toNat q) 86 i.toNat g) = fp_kf (mv ν) i.toNat q g := fun q g => (mv_up (a := 1)).trans (by rw [show mv (am_up ν 85 i.toNat q) = fp_ct (am_up (mv ν) 1 i.toNat q) from mv_up (a := 0)]; exact fp_ct2)
  have g14 : ∀ q g : Int, am_up (am_up ν 85 i.toNat q) 86 i.toNat g 83 14 = ν 83 14 := fun q g => (am_upN (by decide)).trans (am_upN (by decide))
  have g11 : ∀ q g : Int, am_up (am_up ν 85 i.toNat q) 86 i.toNat g 83 11 = ν 83 11 := fun q g => (am_upN (by decide)).trans (am_upN (by decide))
  have g40 : ∀ q g : Int, am_up (am_up ν 85 i.toNat q) 86 i.toNat g 83 40 = ν 83 40 := fun q g => (am_upN (by decide)).trans (am_upN (by decide))
  have g105 : ∀ q g : Int, am_up (am_up ν 85 i.toNat q) 86 i.toNat g 105 = ν 105 := fun q g => funext (fun b => (am_upN (by decide)).trans (am_upN (by decide)))
  have lp64 : ∀ (m : Nat) (y z u x t v : Int) (μ : am_N) , (∀ a b, ¬(a = 85 ∧ b = i.toNat) → ¬(a = 86 ∧ b = i.toNat) → μ a b = ν a b) → 0 ≤ v → v ≤ 60 → x = fq_cu (fp_psp (mv ν) (fp_rt (ν 83 40) (ν 105)) (ν 83 40) i) v.toNat → t = fq_lu (fp_psp (mv ν) (fp_rt (ν 83 40) (ν 105)) (ν 83 40) i) v.toNat → (0 ≤ i ∧ i < ν 83 14) → (w = 0 ∨ w = 1) → z = ν 85 i.toNat → u = ν 86 i.toNat → 60 - v < (m : Int) → am_AW l 0 (fun _ => 0) 243 Q 64 [some (.inr (.inr 83)), some (.inl i), some (.inl w), some (.inl y), some (.inl z), some (.inl u), some (.inl x), some (.inl t), some (.inl v)] [] μ := by
    intro m
    induction m with
    | zero =>
      intro y z u x t v μ hv0 hv1 hv2 hv3 hv4 hv5 hv6 hv7 hv8 hm
      exfalso
      omega
    | succ m ih =>
      intro y z u x t v μ hv0 hv1 hv2 hv3 hv4 hv5 hv6 hv7 hv8 hm
      have cv2 : am_c v = v := am_cR (by omega) (by omega)
      have vd : (am_c v).tdiv (am_c 10) = v / 10 := by rw [cv2, l10, Int.tdiv_eq_ediv_of_nonneg hv1]
      have vm : (am_c v).tmod (am_c 10) = v % 10 := by rw [cv2, l10, Int.tmod_eq_emod_of_nonneg hv1]
      have fe : ∀ q g : Int, am_up (am_up μ 85 i.toNat q) 86 i.toNat g = am_up (am_up ν 85 i.toNat q) 86 i.toNat g := fun q g => funext (fun a => funext (fun b => by
        by_cases d : a = 86 ∧ b = i.toNat
        · rw [am_upS, if_pos d, am_upS, if_pos d]
        · rw [am_uE d, am_uE d]
          by_cases c : a = 85 ∧ b = i.toNat
          · rw [am_upS, if_pos c, am_upS, if_pos c]
          · rw [am_uE c, am_uE c]; exact hv0 a b c d))
      have bk : am_up (am_up μ 85 i.toNat z) 86 i.toNat u = ν := funext (fun a => funext (fun b => by
        by_cases d : a = 86 ∧ b = i.toNat
        · rw [am_upS, if_pos d, d.1, d.2]; exact hv8
        · rw [am_uE d]
          by_cases c : a = 85 ∧ b = i.toNat
          · rw [am_upS, if_pos c, c.1, c.2]; exact hv7
          · rw [am_uE c]; exact hv0 a b c d))
      have ps : (fp_psp (mv ν) (fp_rt (ν 83 40) (ν 105)) (ν 83 40) i) v.toNat = fp_tn (fp_kf (mv ν) i.toNat (v / 10) (v % 10)) i.toNat (ν 83 11) (fp_rt (ν 83 40) (ν 105)) (ν 83 40) := by unfold fp_psp; rw [Int.toNat_of_nonneg hv1, e1]
      have xb := fq_cu_b (fp_psp (mv ν) (fp_rt (ν 83 40) (ν 105)) (ν 83 40) i) v.toNat
      have cx : am_c x = x := am_cR (by omega) (by omega)
      refine am_go (ct := fun pc => Nat.beq pc 64) am_oX7_past 300 ?_
      conv => whnf
      repeat' first
        | (refine (?_ : am_wp _ _ _ _ _ _ _ _ _ _ _ _); conv => whnf)
        | (refine (?_ : am_sw _ _ _ _); conv => whnf)
        | refine And.intro trivial ?_
        | exact trivial
        | (have v9 : v ≤ 59 := (by (simp only [cv2, l60] at *; first | done | omega)); rw [vd, vm, ei, fe]; refine n_hasTimes i (by rw [p2]; exact fw_kf hw ⟨by omega, by omega⟩ ⟨by omega, by omega⟩) hv5.1 (by rw [g14]; exact hv5.2) (by rw [g40]; exact n40.1) (by rw [g40]; exact n40.2) (by rw [g40, g105]; exact hr) (fun y1 => ?_) (fun y0 => ?_))
        | (rw [ei, bk]; refine kk _ _ (gm_rf hm0) ?_)
        | refine x_isRunnerT _ f0 f1 (fun y0 y1 => ?_) (fun y => ?_)
        | refine x_isIn w _ _ _ rfl cw ?_ ?_ (fun _ _ => ?_) (fun _ => ?_)
        | refine x_no _ ?_ (fun μr fr => ?_)
        | refine And.intro (fun h => absurd h (by omega)) (fun _ => ?_)
        | refine And.intro (fun _ => ?_) (fun h => absurd h (by omega))
        | refine kk _ _ (mi_84 hm0 fr) ?_
        | refine ih _ _ _ _ _ _ _ ?_ ?_ ?_ ?_ ?_ ?_ ?_ ?_ ?_ ?_
        | refine And.intro (fun h => absurd h (by decide)) (fun _ => ?_)
        | refine And.intro (fun _ => ?_) (fun h => absurd (by decide) h)
        | refine And.intro (fun _ => ?_) (fun _ => ?_)
        | refine And.intro ?_ ?_
      all_goals (first | decide | assumption | omega | (intro a b q1 q2; rw [am_uE q2, am_uE q1]) | (have y1 := y1; rw [p2, g11, g40, g105, ← ps] at y1; rw [show (v + 1).toNat = v.toNat + 1 by omega]; first | (simp only [fq_cu]; rw [y1]; show x + 1 = fq_cu _ _ + 1; rw [hv3]) | (simp only [fq_lu]; rw [y1]; show _ = (if fq_cu _ _ = 0 then _ else _); first | (rw [if_pos (by rw [← hv3]; (simp only [cx] at *; first | done | omega))]; omega) | (rw [if_neg (by rw [← hv3]; (simp only [cx] at *; first | done | omega))]; exact hv4))) | (have y0 := y0; rw [p2, g11, g40, g105, ← ps] at y0; rw [show (v + 1).toNat = v.toNat + 1 by omega]; first | (simp only [fq_cu]; rw [y0]; show x = fq_cu _ _; exact hv3) | (simp only [fq_lu]; rw [y0]; show t = fq_lu _ _; exact hv4)) | (have se : v.toNat = 60 := (by (simp only [cv2, l60] at *; first | done | omega)); rw [se] at hv3 hv4; unfold fp_psr; rw [e4, if_neg (by omega), if_neg (by omega)]; first | (rw [if_pos (by (simp only [cw, l0] at *; first | done | omega))]; exact hv3) | (rw [if_neg (by (simp only [cw, l0] at *; first | done | omega))]; exact hv4)) | (trace_state; fail))
  have lp64' : ∀ (y z u x t v : Int) (μ : am_N) , (∀ a b, ¬(a = 85 ∧ b = i.toNat) → ¬(a = 86 ∧ b = i.toNat) → μ a b = ν a b) → 0 ≤ v → v ≤ 60 → x = fq_cu (fp_psp (mv ν) (fp_rt (ν 83 40) (ν 105)) (ν 83 40) i) v.toNat → t = fq_lu (fp_psp (mv ν) (fp_rt (ν 83 40) (ν 105)) (ν 83 40) i) v.toNat → (0 ≤ i ∧ i < ν 83 14) → (w = 0 ∨ w = 1) → z = ν 85 i.toNat → u = ν 86 i.toNat → am_AW l 0 (fun _ => 0) 243 Q 64 [some (.inr (.inr 83)), some (.inl i), some (.inl w), some (.inl y), some (.inl z), some (.inl u), some (.inl x), some (.inl t), some (.inl v)] [] μ := fun y z u x t v μ hv0 hv1 hv2 hv3 hv4 hv5 hv6 hv7 hv8 => lp64 ((60 - v) + 1).toNat y z u x t v μ hv0 hv1 hv2 hv3 hv4 hv5 hv6 hv7 hv8 (by omega)
  refine am_go (ct := fun pc => Nat.beq pc 64) am_oX7_past 300 ?_
  conv => whnf
  repeat' first
    | (refine (?_ : am_wp _ _ _ _ _ _ _ _ _ _ _ _); conv => whnf)
    | (refine (?_ : am_sw _ _ _ _); conv => whnf)
    | refine And.intro trivial ?_
    | exact trivial
    | refine x_isRunnerT _ f0 f1 (fun y0 y1 => ?_) (fun y => ?_)
    | refine x_isIn w _ _ _ rfl cw ?_ ?_ (fun _ _ => ?_) (fun _ => ?_)
    | refine x_no _ ?_ (fun μr fr => ?_)
    | refine And.intro (fun h => absurd h (by omega)) (fun _ => ?_)
    | refine And.intro (fun _ => ?_) (fun h => absurd h (by omega))
    | refine kk _ _ (mi_84 hm0 fr) ?_
    | refine lp64' _ _ _ _ _ _ _ ?_ ?_ ?_ ?_ ?_ ?_ ?_ ?_ ?_
    | refine And.intro (fun h => absurd h (by decide)) (fun _ => ?_)
    | refine And.intro (fun _ => ?_) (fun h => absurd (by decide) h)
    | refine And.intro (fun _ => ?_) (fun _ => ?_)
    | refine And.intro ?_ ?_
  all_goals (first | decide | assumption | omega | rfl | (intros; rfl) | (rw [ci]; omega) | (rw [ei]) | (unfold fp_psr; rw [e4, if_pos (by omega)]; done) | (unfold fp_psr; rw [e4, if_neg (by omega), if_pos (by omega)]; done) | (trace_state; fail))
