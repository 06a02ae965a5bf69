/-! races by seeds -/
/-- the part that a seed tells; what one takes by it -/
def fp_zq (z : Int) : Int := (am_c ((am_c (am_and z 2147483647)).tdiv (am_c 65536))).tmod (am_c 4)
def fp_pz (t s q : Int) : Int := if am_c q = 0 then (if t - s < 1 then 1 else t - s) else if am_c q = 3 then t + s else t
def fp_zi (z : Int) : Nat → Int
  | 0 => z
  | i + 1 => fp_zi z i * 1103515245 + 12345
def fp_zt (F : am_N) (z : Int) : Nat → Int := fun i => fp_pz (fp_tf F i) (F 4 i) (fp_zq (fp_zi z (i + 1)))
theorem fp_pz_b {t s q : Int} (t0 : 1 ≤ t) (t1 : t ≤ 100000) (s0 : 0 ≤ s) (s1 : s ≤ 20) : 1 ≤ fp_pz t s q ∧ fp_pz t s q ≤ 100020 := by
  unfold fp_pz
  (repeat' split) <;> omega
theorem fp_zi_s (z : Int) (i : Nat) : fp_zi z (i + 1) = fp_zi z i * 1103515245 + 12345 := rfl
def fp_sZ (F : am_N) (z : Int) : Nat → Int
  | 0 => z
  | k + 1 => fp_zi (fp_sZ F z k) (F 0 4).toNat
def fp_sS (F : am_N) (z : Int) : Nat → Nat → Int
  | 0 => F 5
  | k + 1 => am_mn (F 0 2) (F 0 3) (F 0 4) (fp_od (fp_zt (fp_wks F (F 0 1 + (k : Int)) (fp_sS F z k)) (fp_sZ F z k)) (F 0 4) 0) (fp_od (fp_zt (fp_wks F (F 0 1 + (k : Int)) (fp_sS F z k)) (fp_sZ F z k)) (F 0 4) (F 0 4 - 1)) (fp_sS F z k)
/-- what each takes in race k -/
def fp_sT (F : am_N) (z : Int) (k : Nat) : Nat → Int := fp_zt (fp_wks F (F 0 1 + (k : Int)) (fp_sS F z k)) (fp_sZ F z k)
def fp_gz (t : Nat → Int) (n : Int) : Int := if 1 < n then t (fp_od t n 1).toNat - t (fp_od t n 0).toNat else 0
def fp_sW (F : am_N) (z i : Int) : Nat → Int
  | 0 => 0
  | k + 1 => if fp_od (fp_sT F z k) (F 0 4) 0 = i then fp_sW F z i k + 1 else fp_sW F z i k
def fp_sGp (F : am_N) (z : Int) : Nat → Int
  | 0 => 0
  | k + 1 => fp_sGp F z k + fp_gz (fp_sT F z k) (F 0 4)
theorem fp_sS_s (F : am_N) (z : Int) (k : Nat) : fp_sS F z (k + 1) = am_mn (F 0 2) (F 0 3) (F 0 4) (fp_od (fp_sT F z k) (F 0 4) 0) (fp_od (fp_sT F z k) (F 0 4) (F 0 4 - 1)) (fp_sS F z k) := rfl
/-- a picture that shows it: TIMES by the seed -/
theorem fp_rq_z {G F : am_N} {w z : Int} {s : Nat → Int} (h : fp_rq G F w s) {i : Nat} (hi : i < 4) : fp_zt G z i = fp_zt (fp_wks F w s) z i := by
  unfold fp_zt
  rw [fp_rq_t h hi, h.2.2.1 4 i (by decide) (by decide) hi]
  rfl
/-- the next race's picture -/
theorem fp_rq_m {G G2 F : am_N} {w w2 f g : Int} {s : Nat → Int} (h : fp_rq G F w s) (hr : G 0 2 = F 0 2) (f0 : 0 ≤ f) (f3 : f ≤ 3) (g0 : 0 ≤ g) (g3 : g ≤ 3) (hw : w2 = w + 1) (e0 : ∀ b : Nat, b < 5 → b ≠ 1 → G2 0 b = G 0 b) (e1 : G2 0 1 = G 0 1 + 1) (ea : ∀ a b : Nat, 0 < a → a < 5 → b < 4 → G2 a b = G a b) (e5 : ∀ b : Nat, b < 4 → G2 5 b = am_mn (G 0 2) (G 0 3) (G 0 4) f g (G 5) b) : fp_rq G2 F w2 (am_mn (F 0 2) (F 0 3) (F 0 4) f g s) := by
  refine ⟨fun b q1 q2 q3 => (e0 b q1 q2).trans (h.1 b q1 q2 q3), by rw [e1, h.2.1, hw], fun a b q1 q2 q3 => (ea a b q1 q2 q3).trans (h.2.2.1 a b q1 q2 q3), fun b hb => ?_⟩
  rw [e5 b hb, hr, h.1 3 (by decide) (by decide) (by decide), h.1 4 (by decide) (by decide) (by decide)]
  exact am_mn_c f0 f3 g0 g3 h.2.2.2 b hb
def fp_sdr (F : am_N) (i n z w : Int) : Int := if ¬(0 ≤ i ∧ i < F 0 4) then -1 else if n < 1 then -4 else if 20 < n then -6 else if ¬(w = 0 ∨ w = 1) then -2 else if w = 0 then fp_sW F z i n.toNat else fp_sGp F z n.toNat
theorem sx_sd {ν μ : am_N} (hS : sx ν ν) (f : ∀ a b, ¬(8 ≤ a ∧ a < 22) → ¬(30 ≤ a ∧ a ≤ 34) → ¬(a = 29 ∧ b = 0) → a ≠ 78 → μ a b = ν a b) (h34 : sx_3 μ 34) (h8 : 0 ≤ μ 8 4 ∧ μ 8 4 ≤ 4) (h15 : 0 ≤ μ 15 4 ∧ μ 15 4 ≤ 4) (h29 : 0 ≤ μ 29 0 ∧ μ 29 0 ≤ 4) : sx ν μ := by
  have p : ∀ a, sx_p a = true → ¬(8 ≤ a ∧ a < 22) ∧ ¬(30 ≤ a ∧ a ≤ 34) ∧ a ≠ 29 ∧ a ≠ 78 := fun a ha => by
    refine ⟨fun y => ?_, fun y => sx_p30 ha (by omega), fun y => sx_p30 ha (by omega), fun y => ?_⟩
    · rcases (show a = 8 ∨ a = 9 ∨ a = 10 ∨ a = 11 ∨ a = 12 ∨ a = 13 ∨ a = 14 ∨ (15 ≤ a ∧ a < 22) by omega) with rfl | rfl | rfl | rfl | rfl | rfl | rfl | x
      all_goals first | cases ha | exact sx_p15 ha x
    · rw [y] at ha; cases ha
  refine ⟨fun a b ha => f a b (p a ha).1 (p a ha).2.1 (fun x => (p a ha).2.2.1 x.1) (p a ha).2.2.2, h34, fun q hq => ?_, ⟨h8, h15, h29, ?_⟩, hS.2.2.2.2⟩
  · rw [f 43 q (by omega) (by omega) (by omega) (by omega)]; exact hS.2.2.1 q hq
  · rw [f 38 0 (by omega) (by omega) (by omega) (by omega)]; exact hS.2.2.2.1.2.2.2
theorem s_drawn {l : Launch} {ν : am_N} {Q : Option am_V → am_N → Prop} (z : Int) (W : Int) (hw : fp_fw W (fv ν 8)) (hW : W ≤ 2000) (hp : sx_3 ν 34) (k : ∀ μ' : am_N, (∀ a b, ¬(30 ≤ a ∧ a ≤ 34) → ¬(a = 29 ∧ b = 0) → μ' a b = ν a b) → μ' 29 0 = ν 8 4 → (∀ q : Nat, (q : Int) < ν 8 4 → μ' 33 q = fp_zt (fv ν 8) z q) → am_isord μ' 34 (μ' 33) (ν 8 4) → sx_3 μ' 34 → Q (some (.inl (fp_zi z (ν 8 4).toNat))) μ') : am_Does l 32 [.inr (.inr 29), .inr (.inr 8), .inl z] ν Q := by
  refine am_Does_of (Nat.le_of_ble_eq_true rfl) (Nat.le_of_ble_eq_true rfl) (Nat.le_of_ble_eq_true rfl) ?_
  have l0 : am_c 0 = 0 := rfl
  have l1 : am_c 1 = 1 := rfl
  have l2 : am_c 2 = 2 := rfl
  have l3 : am_c 3 = 3 := rfl
  have l4 : am_c 4 = 4 := rfl
  have l20 : am_c 20 = 20 := rfl
  obtain ⟨hf, -, -, -, -, -, hx⟩ := fw_C hw hW
  have h4 := hf.1
  have cn : am_c (ν 8 4) = ν 8 4 := am_cR (by omega) (by omega)
  have hs : ∀ q : Nat, (q : Int) < ν 8 4 → 0 ≤ ν 12 q ∧ ν 12 q ≤ 20 := fun q hq => (hx q hq).2.2.2
  have hq := @am_TC_b ν 8
  have lp10 : ∀ (m : Nat) (y i : Int) (o5 : Option am_V) (μ : am_N) , (∀ a b, ¬(30 ≤ a ∧ a ≤ 33) → ¬(a = 29 ∧ b = 0) → μ a b = ν a b) → μ 29 0 = ν 8 4 → (∀ q : Nat, (q : Int) < ν 8 4 → μ 30 q = fp_pt (am_TC ν 8 q) (ν 12 q) 0 ∧ μ 31 q = am_TC ν 8 q ∧ μ 32 q = am_TC ν 8 q + ν 12 q) → 0 ≤ i → i ≤ ν 8 4 → y = fp_zi z i.toNat → (∀ q : Nat, (q : Int) < i → μ 33 q = fp_zt (fv ν 8) z q) → ν 8 4 - i < (m : Int) → am_AW l 0 (fun _ => 0) 32 Q 10 [some (.inr (.inr 29)), some (.inr (.inr 8)), some (.inl z), some (.inl y), some (.inl i), o5] [] μ := by
    intro m
    induction m with
    | zero =>
      intro y i o5 μ hv0 hv1 hv2 hv3 hv4 hv5 hv6 hm
      exfalso
      omega
    | succ m ih =>
      intro y i o5 μ hv0 hv1 hv2 hv3 hv4 hv5 hv6 hm
      have ci : am_c i = i := am_cR (by omega) (by omega)
      have ei : (am_c i).toNat = i.toNat := by rw [ci]
      have ez : fp_zq (fp_zi z (i.toNat + 1)) = ((am_c ((am_c (am_and (y * 1103515245 + 12345) 2147483647)).tdiv (am_c 65536))).tmod (am_c 4)) := by rw [fp_zi_s, ← hv5]; rfl
      have eT := fun q : i < ν 8 4 => fv_T (μ := ν) (c := 8) (i := i.toNat) (by omega)
      have eS := fun q : i < ν 8 4 => fv_a (μ := ν) (c := 8) (a := 4) (b := i.toNat) (by decide) (by decide) (by omega)
      have rw3 := fun q : i < ν 8 4 => hv2 i.toNat (by omega)
      refine am_go (ct := fun pc => Nat.beq pc 10) am_oX2_drawn 300 ?_
      conv => whnf
      repeat' first
        | (refine (?_ : am_wp _ _ _ _ _ _ _ _ _ _ _ _); conv => whnf)
        | (refine (?_ : am_sw _ _ _ _); conv => whnf)
        | refine And.intro trivial ?_
        | exact trivial
        | ((with_reducible refine (?_ : am_Does _ 36 _ _ _)); (have iE : i = ν 8 4 := (by (simp only [ci, hv1, cn] at *; first | done | omega)); refine x_line (by rw [hv1]; exact h4.1) (by rw [hv1]; exact h4.2) (fun j hj => by rw [hv1] at hj; rw [hv6 j (by omega)]; unfold fp_zt; have z1 := @hq j hf hj; have z2 := hs j hj; have z3 := fp_pz_b (t := fp_tf (fv ν 8) j) (s := fv ν 8 4 j) (q := fp_zq (fp_zi z (j + 1))) (by rw [← fv_T (by omega)]; exact z1.1) (by rw [← fv_T (by omega)]; omega) (by rw [show fv ν 8 4 j = ν 12 j from fv_a (by decide) (by decide) (by omega)]; exact z2.1) (by rw [show fv ν 8 4 j = ν 12 j from fv_a (by decide) (by decide) (by omega)]; exact z2.2); omega) (fun μ2 g2 o2 b2 => ?_); rw [hv1] at o2; have e33 : μ2 33 = μ 33 := funext (fun b => g2 33 b (by decide))))
        | ((with_reducible refine (?_ : Q _ _)); (refine am_qe (k μ2 (fun a b q1 q2 => (g2 a b (by omega)).trans (hv0 a b (by omega) q2)) ((g2 29 0 (by decide)).trans hv1) (fun q hq => by rw [e33]; exact hv6 q (by omega)) (by rw [e33]; exact o2) (b2 (fun p hp2 => by rw [hv0 34 p (by omega) (by omega)]; exact hp p hp2))) ?_))
        | ((with_reducible refine (?_ : am_Does _ 21 _ _ _)); refine x_draw_8 hf hs (fun μ1 f1 d0 dr => ?_))
        | ((with_reducible refine (?_ : am_AW _ _ _ _ _ 10 _ _ _)); refine ih _ _ _ _ ?_ ?_ ?_ ?_ ?_ ?_ ?_ ?_)
        | refine And.intro (fun h => absurd h (by decide)) (fun _ => ?_)
        | refine And.intro (fun _ => ?_) (fun h => absurd (by decide) h)
        | refine And.intro (fun _ => ?_) (fun _ => ?_)
        | refine And.intro ?_ ?_
      all_goals (first | decide | assumption | omega | (rw [ei]; omega) | (rw [ci]; (simp only [ci, hv1, cn] at *; first | done | omega)) | ((simp only [ci, hv1, cn] at *; first | done | omega)) | (intro a b q1 q2; rw [am_upN (show a ≠ 33 by omega)]; exact hv0 a b q1 q2) | (rw [am_upN (by decide)]; exact hv1) | (intro q hq2; rw [am_upN (by decide), am_upN (by decide), am_upN (by decide)]; exact hv2 q hq2) | (rw [show (i + 1).toNat = i.toNat + 1 by omega, fp_zi_s, ← hv5]) | (intro q hq2; by_cases d : (q : Int) = i; (have iN : i < ν 8 4 := (by (simp only [ci, hv1, cn] at *; first | done | omega)); have r3 := rw3 iN; (first | have eT := eT iN | skip); (first | have eS := eS iN | skip); rw [am_upS, if_pos ⟨rfl, by rw [ei]; omega⟩, show q = i.toNat by omega]; unfold fp_zt fp_pz; rw [ez, ← eT, eS, ei]; first | (rw [if_pos (show am_c ((am_c ((am_c (am_and (y * 1103515245 + 12345) 2147483647)).tdiv (am_c 65536))).tmod (am_c 4)) = 0 by assumption)]; exact r3.1.trans (fp_pt_0 _ _)) | (rw [if_neg (show ¬ am_c ((am_c ((am_c (am_and (y * 1103515245 + 12345) 2147483647)).tdiv (am_c 65536))).tmod (am_c 4)) = 0 by assumption), if_pos (show am_c ((am_c ((am_c (am_and (y * 1103515245 + 12345) 2147483647)).tdiv (am_c 65536))).tmod (am_c 4)) = 3 by assumption)]; exact r3.2.2) | (rw [if_neg (show ¬ am_c ((am_c ((am_c (am_and (y * 1103515245 + 12345) 2147483647)).tdiv (am_c 65536))).tmod (am_c 4)) = 0 by assumption), if_neg (show ¬ am_c ((am_c ((am_c (am_and (y * 1103515245 + 12345) 2147483647)).tdiv (am_c 65536))).tmod (am_c 4)) = 3 by assumption)]; exact r3.2.1)); (rw [am_upM (by rw [ei]; omega)]; exact hv6 q (by omega))) | (rw [hv5, iE]) | (trace_state; fail))
  have lp10' : ∀ (y i : Int) (o5 : Option am_V) (μ : am_N) , (∀ a b, ¬(30 ≤ a ∧ a ≤ 33) → ¬(a = 29 ∧ b = 0) → μ a b = ν a b) → μ 29 0 = ν 8 4 → (∀ q : Nat, (q : Int) < ν 8 4 → μ 30 q = fp_pt (am_TC ν 8 q) (ν 12 q) 0 ∧ μ 31 q = am_TC ν 8 q ∧ μ 32 q = am_TC ν 8 q + ν 12 q) → 0 ≤ i → i ≤ ν 8 4 → y = fp_zi z i.toNat → (∀ q : Nat, (q : Int) < i → μ 33 q = fp_zt (fv ν 8) z q) → am_AW l 0 (fun _ => 0) 32 Q 10 [some (.inr (.inr 29)), some (.inr (.inr 8)), some (.inl z), some (.inl y), some (.inl i), o5] [] μ := fun y i o5 μ hv0 hv1 hv2 hv3 hv4 hv5 hv6 => lp10 ((ν 8 4 - i) + 1).toNat y i o5 μ hv0 hv1 hv2 hv3 hv4 hv5 hv6 (by omega)
  refine am_go (ct := fun pc => Nat.beq pc 10) am_oX2_drawn 300 ?_
  conv => whnf
  repeat' first
    | (refine (?_ : am_wp _ _ _ _ _ _ _ _ _ _ _ _); conv => whnf)
    | (refine (?_ : am_sw _ _ _ _); conv => whnf)
    | refine And.intro trivial ?_
    | exact trivial
    | ((with_reducible refine (?_ : am_Does _ 21 _ _ _)); refine x_draw_8 hf hs (fun μ1 f1 d0 dr => ?_))
    | ((with_reducible refine (?_ : am_AW _ _ _ _ _ 10 _ _ _)); refine lp10' _ _ _ _ ?_ ?_ ?_ ?_ ?_ ?_ ?_)
    | refine And.intro (fun h => absurd h (by decide)) (fun _ => ?_)
    | refine And.intro (fun _ => ?_) (fun h => absurd (by decide) h)
    | refine And.intro (fun _ => ?_) (fun _ => ?_)
    | refine And.intro ?_ ?_
  all_goals (first | decide | assumption | omega | rfl | (intro a b q1 q2; exact f1 a b (by omega) q2) | exact d0 | exact dr | (intros; omega) | (trace_state; fail))
theorem s_gapZ {l : Launch} {ν : am_N} {Q : Option am_V → am_N → Prop} (n0 : 1 ≤ ν 29 0) (n4 : ν 29 0 ≤ 4) (eo : am_isord ν 34 (ν 33) (ν 29 0)) (k : Q (some (.inl (fp_gz (ν 33) (ν 29 0)))) ν) : am_Does l 39 [.inr (.inr 29)] ν Q := by
  refine am_Does_of (Nat.le_of_ble_eq_true rfl) (Nat.le_of_ble_eq_true rfl) (Nat.le_of_ble_eq_true rfl) ?_
  have l0 : am_c 0 = 0 := rfl
  have l1 : am_c 1 = 1 := rfl
  have l2 : am_c 2 = 2 := rfl
  have l3 : am_c 3 = 3 := rfl
  have l4 : am_c 4 = 4 := rfl
  have l20 : am_c 20 = 20 := rfl
  have cn : am_c (ν 29 0) = ν 29 0 := am_cR (by omega) (by omega)
  have b0 := fp_od_b (ν 33) (ν 29 0) 0
  have b1 := fp_od_b (ν 33) (ν 29 0) 1
  have w0 : ν 34 (am_c 0).toNat = fp_od (ν 33) (ν 29 0) 0 := fp_od_o n4 eo 0 (by omega)
  have w1 := fun z : 1 < ν 29 0 => (show ν 34 (am_c 1).toNat = fp_od (ν 33) (ν 29 0) 1 from fp_od_o n4 eo 1 (by omega))
  have c0 : am_c (fp_od (ν 33) (ν 29 0) 0) = fp_od (ν 33) (ν 29 0) 0 := am_cR (by omega) (by omega)
  have c1 : am_c (fp_od (ν 33) (ν 29 0) 1) = fp_od (ν 33) (ν 29 0) 1 := am_cR (by omega) (by omega)
  refine am_go (ct := fun _ => false) am_oX2_gap 300 ?_
  conv => whnf
  repeat' first
    | (refine (?_ : am_wp _ _ _ _ _ _ _ _ _ _ _ _); conv => whnf)
    | (refine (?_ : am_sw _ _ _ _); conv => whnf)
    | refine And.intro trivial ?_
    | exact trivial
    | (refine am_qe k ?_)
    | refine And.intro (fun h => absurd h (by decide)) (fun _ => ?_)
    | refine And.intro (fun _ => ?_) (fun h => absurd (by decide) h)
    | refine And.intro (fun _ => ?_) (fun _ => ?_)
    | refine And.intro ?_ ?_
  all_goals (first | decide | omega | (have z : 1 < ν 29 0 := (by (simp only [cn, l1] at *; first | done | omega)); (first | have w1 := w1 z | skip); first | (rw [w1, c1]; omega) | (rw [w0, c0]; omega) | (rw [w0, w1, c0, c1]; unfold fp_gz; rw [if_pos z])) | (unfold fp_gz; rw [if_neg (by (simp only [cn, l1] at *; first | done | omega))]) | (trace_state; fail))
theorem s_seeds {l : Launch} {ν : am_N} {Q : Option am_V → am_N → Prop} (i n z w : Int) (ci : am_c i = i) (cn : am_c n = n) (cw : am_c w = w) (hS : sx ν ν) (hw : fp_fw 999 (fv ν 1)) (k : ∀ μ' : am_N, sx ν μ' → Q (some (.inl (fp_sdr (fv ν 1) i n z w))) μ') : am_Does l 89 [.inr (.inr 0), .inl i, .inl n, .inl z, .inl w] ν Q := by
  refine am_Does_of (Nat.le_of_ble_eq_true rfl) (Nat.le_of_ble_eq_true rfl) (Nat.le_of_ble_eq_true rfl) ?_
  have l0 : am_c 0 = 0 := rfl
  have l1 : am_c 1 = 1 := rfl
  have l2 : am_c 2 = 2 := rfl
  have l3 : am_c 3 = 3 := rfl
  have l4 : am_c 4 = 4 := rfl
  have l20 : am_c 20 = 20 := rfl
  have m1' : am_c (-1) = -1 := rfl
  have m2' : am_c (-2) = -2 := rfl
  have m3' : am_c (-3) = -3 := rfl
  have m4' : am_c (-4) = -4 := rfl
  have m6' : am_c (-6) = -6 := rfl
  have m9' : am_c (-9) = -9 := rfl
  obtain ⟨hf, -, -, -, -, -, hx⟩ := fw_C hw (by decide)
  have f0 := hf.1.1
  have f1 := hf.1.2
  have e4 : fv ν 1 0 4 = ν 1 4 := fv_0 (by decide)
  have h15 := hS.2.2.2.1
  have kk := fun (x : Int) (μ' : am_N) (h : sx ν μ') (e : x = fp_sdr (fv ν 1) i n z w) => am_qe (k μ' h) e
  clear k
  have lp80 : ∀ (m : Nat) (y a b k : Int) (μ : am_N) , (∀ a b, ¬(8 ≤ a ∧ a < 15) → ¬(30 ≤ a ∧ a ≤ 34) → ¬(a = 29 ∧ b = 0) → μ a b = ν a b) → fp_rq (fv μ 8) (fv ν 1) ((fv ν 1) 0 1 + k) (fp_sS (fv ν 1) z k.toNat) → 0 ≤ k → k ≤ n → y = (fp_sZ (fv ν 1) z k.toNat) → a = fp_sW (fv ν 1) z i k.toNat → b = fp_sGp (fv ν 1) z k.toNat → sx_3 μ 34 → (0 ≤ μ 29 0 ∧ μ 29 0 ≤ 4) → fp_fw (999 + k) (fv μ 8) → fv μ 8 0 2 = (fv ν 1) 0 2 → (0 ≤ i ∧ i < ν 1 4) → (1 ≤ n ∧ n ≤ 20) → (w = 0 ∨ w = 1) → n - k < (m : Int) → am_AW l 0 (fun _ => 0) 89 Q 80 [some (.inr (.inr 0)), some (.inl i), some (.inl n), some (.inl z), some (.inl w), some (.inl y), some (.inl a), some (.inl b), some (.inl k)] [] μ := by
    intro m
    induction m with
    | zero =>
      intro y a b k μ hv0 hv1 hv2 hv3 hv4 hv5 hv6 hv7 hv8 hv9 hv10 hv11 hv12 hv13 hm
      exfalso
      omega
    | succ m ih =>
      intro y a b k μ hv0 hv1 hv2 hv3 hv4 hv5 hv6 hv7 hv8 hv9 hv10 hv11 hv12 hv13 hm
      have ck : am_c k = k := am_cR (by omega) (by omega)
      have ek : ((k.toNat : Nat) : Int) = k := Int.toNat_of_nonneg hv2
      have h8 : fp_fw 1019 (fv μ 8) := fw_mono hv9 (by omega)
      have n8 : μ 8 4 = ν 1 4 := by rw [← fv_0 (μ := μ) (c := 8) (b := 4) (by decide), hv1.1 4 (by decide) (by decide) (by decide)]; exact e4
      have e8 : fv μ 8 0 4 = ν 1 4 := (fv_0 (by decide)).trans n8
      obtain ⟨hf8, hr8, hy8, hs8, -, -, -⟩ := fw_C h8 (by decide)
      have sE : sx ν μ := sx_sd hS (fun a b q1 q2 q3 _ => hv0 a b (by omega) q2 q3) hv7 (by rw [n8]; exact ⟨f0, f1⟩) (by rw [hv0 15 4 (by omega) (by omega) (by omega)]; exact h15.2.1) hv8
      have b0 := fp_od_b (fp_sT (fv ν 1) z k.toNat) (ν 1 4) 0
      have b1 := fp_od_b (fp_sT (fv ν 1) z k.toNat) (ν 1 4) (ν 1 4 - 1)
      have c0 : am_c (fp_od (fp_sT (fv ν 1) z k.toNat) (ν 1 4) 0) = fp_od (fp_sT (fv ν 1) z k.toNat) (ν 1 4) 0 := am_cR (by omega) (by omega)
      have o0 : fp_od (fp_sT (fv ν 1) z k.toNat) (ν 1 4) 0 < ν 1 4 := fp_od_n f1 (by decide) (by omega)
      have o1 : fp_od (fp_sT (fv ν 1) z k.toNat) (ν 1 4) (ν 1 4 - 1) < ν 1 4 := fp_od_n f1 (by omega) (by omega)
      refine am_go (ct := fun pc => Nat.beq pc 80) am_oX6_seeds 300 ?_
      conv => whnf
      repeat' first
        | (refine (?_ : am_wp _ _ _ _ _ _ _ _ _ _ _ _); conv => whnf)
        | (refine (?_ : am_sw _ _ _ _); conv => whnf)
        | refine And.intro trivial ?_
        | exact trivial
        | (refine (?_ : fp_rq _ _ _ _); (first | decide | assumption | omega | exact W3 | (intro a b q1 q2 q3; rw [f3 a b (by omega) (by omega)]; exact fr2 a b q1 q2 q3) | (rw [show (k + 1).toNat = k.toNat + 1 by omega, fp_sS_s, e4]; rw [e4] at R3; exact R3) | (rw [show (k + 1).toNat = k.toNat + 1 by omega, n8, hv4]; simp only [fp_sZ]; rw [e4]) | (rw [show (k + 1).toNat = k.toNat + 1 by omega]; simp only [fp_sW]; rw [e4]; first | (rw [if_pos (by (simp only [c0, ci] at *; first | done | omega)), hv5]) | (rw [if_neg (by (simp only [c0, ci] at *; first | done | omega)), hv5])) | (rw [show (k + 1).toNat = k.toNat + 1 by omega, hv6]; simp only [fp_sGp]; rw [e4]) | (intro p hp; rw [f3 34 p (by decide) (by omega)]; exact b2 p hp) | (rw [f3 29 0 (by decide) (by omega), e29]; first | exact ⟨f0, f1⟩ | exact f0 | exact f1) | (rw [j0 2 (by decide) (by decide)]; exact hv10) | (unfold fp_sdr; rw [e4, if_neg (by omega), if_neg (by omega), if_neg (by omega), if_neg (by omega)]; first | (rw [if_pos (by (simp only [cw, l0] at *; first | done | omega)), hv5, kE]) | (rw [if_neg (by (simp only [cw, l0] at *; first | done | omega)), hv6, kE])) | (trace_state; fail)))
        | (refine (?_ : fp_fw _ _); (first | decide | assumption | omega | exact W3 | (intro a b q1 q2 q3; rw [f3 a b (by omega) (by omega)]; exact fr2 a b q1 q2 q3) | (rw [show (k + 1).toNat = k.toNat + 1 by omega, fp_sS_s, e4]; rw [e4] at R3; exact R3) | (rw [show (k + 1).toNat = k.toNat + 1 by omega, n8, hv4]; simp only [fp_sZ]; rw [e4]) | (rw [show (k + 1).toNat = k.toNat + 1 by omega]; simp only [fp_sW]; rw [e4]; first | (rw [if_pos (by (simp only [c0, ci] at *; first | done | omega)), hv5]) | (rw [if_neg (by (simp only [c0, ci] at *; first | done | omega)), hv5])) | (rw [show (k + 1).toNat = k.toNat + 1 by omega, hv6]; simp only [fp_sGp]; rw [e4]) | (intro p hp; rw [f3 34 p (by decide) (by omega)]; exact b2 p hp) | (rw [f3 29 0 (by decide) (by omega), e29]; first | exact ⟨f0, f1⟩ | exact f0 | exact f1) | (rw [j0 2 (by decide) (by decide)]; exact hv10) | (unfold fp_sdr; rw [e4, if_neg (by omega), if_neg (by omega), if_neg (by omega), if_neg (by omega)]; first | (rw [if_pos (by (simp only [cw, l0] at *; first | done | omega)), hv5, kE]) | (rw [if_neg (by (simp only [cw, l0] at *; first | done | omega)), hv6, kE])) | (trace_state; fail)))
        | ((with_reducible refine (?_ : am_Does _ 32 _ _ _)); (have kN : k < n := (by (simp only [ck, cn] at *; first | done | omega)); refine s_drawn y 1019 h8 (by decide) hv7 (fun μ2 g2 d2 t2 o2 b2 => ?_); have u2 : ∀ q : Nat, q < 4 → (q : Int) < ν 1 4 → μ2 33 q = (fp_sT (fv ν 1) z k.toNat) q := (fun q q1 q2 => by rw [t2 q (by rw [n8]; exact q2), fp_rq_z hv1 q1, hv4]; show _ = fp_zt (fp_wks (fv ν 1) (fv ν 1 0 1 + ((k.toNat : Nat) : Int)) (fp_sS (fv ν 1) z k.toNat)) (fp_sZ (fv ν 1) z k.toNat) q; rw [ek]); have od2 : ∀ p : Int, fp_od (μ2 33) (ν 1 4) p = fp_od (μ2 33) (ν 1 4) p := (fun _ => rfl); have e29 : μ2 29 0 = ν 1 4 := d2.trans n8; rw [n8] at o2; have w0 : μ2 34 0 = fp_od (fp_sT (fv ν 1) z k.toNat) (ν 1 4) 0 := (by rw [fp_od_o f1 o2 0 (by omega)]; exact fp_od_i2 f1 (by omega) (fun q hq => u2 q (by omega) hq)); have wg : μ2 34 (μ2 29 0 - 1).toNat = fp_od (fp_sT (fv ν 1) z k.toNat) (ν 1 4) (ν 1 4 - 1) := (by rw [e29, fp_od_o f1 o2 _ (by omega), fp_od_i2 f1 (by omega) (fun q hq => u2 q (by omega) hq), show (((ν 1 4 - 1).toNat : Nat) : Int) = ν 1 4 - 1 by omega]); have fr2 : (∀ a b, ¬(8 ≤ a ∧ a < 15) → ¬(30 ≤ a ∧ a ≤ 34) → ¬(a = 29 ∧ b = 0) → μ2 a b = ν a b) := (fun a b q1 q2 q3 => (g2 a b q2 q3).trans (hv0 a b q1 q2 q3)); have eGZ : fp_gz (μ2 33) (μ2 29 0) = fp_gz (fp_sT (fv ν 1) z k.toNat) (ν 1 4) := (by rw [e29]; unfold fp_gz; by_cases d : 1 < ν 1 4; (rw [if_pos d, if_pos d, show (1 : Int) = ((1 : Nat) : Int) from rfl, fp_od_i2 (p := 1) f1 (by omega) (fun q hq => u2 q (by omega) hq), show (0 : Int) = ((0 : Nat) : Int) from rfl, fp_od_i2 (p := 0) f1 (by omega) (fun q hq => u2 q (by omega) hq)]; have p1 := fp_od_b (fp_sT (fv ν 1) z k.toNat) (ν 1 4) ((1 : Nat) : Int); have p2 := fp_od_n (t := (fp_sT (fv ν 1) z k.toNat)) (n := ν 1 4) (p := ((1 : Nat) : Int)) f1 (by omega) (by omega); have p3 := fp_od_b (fp_sT (fv ν 1) z k.toNat) (ν 1 4) ((0 : Nat) : Int); have p4 := fp_od_n (t := (fp_sT (fv ν 1) z k.toNat)) (n := ν 1 4) (p := ((0 : Nat) : Int)) f1 (by omega) (by omega); rw [u2 _ (by omega) (by omega), u2 _ (by omega) (by omega)]); (rw [if_neg d, if_neg d]))))
        | ((with_reducible refine (?_ : am_Does _ 39 _ _ _)); (refine s_gapZ (by rw [e29]; omega) (by rw [e29]; exact f1) (by rw [e29]; exact o2) ?_; rw [eGZ]))
        | ((with_reducible refine (?_ : am_Does _ 37 _ _ _)); (refine x_first_29_8 (fp_od (fp_sT (fv ν 1) z k.toNat) (ν 1 4) 0) w0 (by rw [e29]; omega) (by rw [e29]; exact f1) ?_))
        | ((with_reducible refine (?_ : am_Does _ 35 _ _ _)); (have q8 : ∀ a b, 8 ≤ a → a < 15 → μ2 a b = μ a b := (fun a b q1 q2 => g2 a b (by omega) (by omega)); refine x_behind_29_8 (fp_od (fp_sT (fv ν 1) z k.toNat) (ν 1 4) 0) (fp_od (fp_sT (fv ν 1) z k.toNat) (ν 1 4) (ν 1 4 - 1)) w0 wg (by rw [e29, q8 8 4 (by decide) (by decide), n8]) b0.1 (by rw [q8 8 4 (by decide) (by decide), n8]; exact o0) b1.1 (by rw [q8 8 4 (by decide) (by decide), n8]; exact o1) (by rw [q8 8 4 (by decide) (by decide), n8]; exact f1) (by rw [q8 8 2 (by decide) (by decide)]; exact hr8) (by rw [q8 8 3 (by decide) (by decide)]; exact hy8) (fun b hb => by rw [q8 13 b (by decide) (by decide)]; exact hs8 b hb) (fun μ3 f3 s3 k3 => ?_); rw [q8 8 2 (by decide) (by decide), q8 8 3 (by decide) (by decide), q8 8 4 (by decide) (by decide), show μ2 13 = μ 13 from funext (fun b => q8 13 b (by decide) (by decide))] at s3; have j0 : ∀ b : Nat, b < 5 → b ≠ 1 → fv μ3 8 0 b = fv μ 8 0 b := (fun b hb q => by rw [fv_0 hb, fv_0 hb, f3 8 b (by decide) (by omega)]; exact q8 8 b (by decide) (by decide)); have j1 : fv μ3 8 0 1 = fv μ 8 0 1 + 1 := (by rw [fv_0 (by decide), fv_0 (by decide), k3, q8 8 1 (by decide) (by decide)]); have ja : ∀ a b : Nat, 0 < a → a < 5 → b < 4 → fv μ3 8 a b = fv μ 8 a b := (fun a b q1 q2 q3 => by rw [fv_a q1 (by omega) q3, fv_a q1 (by omega) q3, f3 (8 + a) b (by omega) (by omega)]; exact q8 (8 + a) b (by omega) (by omega)); have j5 : ∀ b : Nat, b < 4 → fv μ3 8 5 b = am_mn (fv μ 8 0 2) (fv μ 8 0 3) (fv μ 8 0 4) (fp_od (fp_sT (fv ν 1) z k.toNat) (ν 1 4) 0) (fp_od (fp_sT (fv ν 1) z k.toNat) (ν 1 4) (ν 1 4 - 1)) (fv μ 8 5) b := (fun b hb => by rw [fv_a (by decide) (by decide) hb, show μ3 (8 + 5) = μ3 13 from rfl, s3, fv_0 (by decide), fv_0 (by decide), fv_0 (by decide)]; exact am_mn_c b0.1 b0.2 b1.1 b1.2 (fun x hx => (fv_a (μ := μ) (c := 8) (a := 5) (by decide) (by decide) hx).symm) b hb); have R3 := fp_rq_m (w2 := fv ν 1 0 1 + (k + 1)) hv1 hv10 b0.1 b0.2 b1.1 b1.2 (by omega) j0 j1 ja j5; have W3 := fw_s5 (V := 999 + (k + 1)) hv9 (by omega) j0 j1 ja (fun b hb => by rw [j5 b hb]; exact am_mn_b hv9.2.2.2.2.2.1 b hb)))
        | ((with_reducible refine (?_ : Q _ _)); (have kE : k.toNat = n.toNat := (by (simp only [ck, cn] at *; first | done | omega)); refine kk _ _ sE ?_))
        | ((with_reducible refine (?_ : am_Does _ 1 _ _ _)); refine x_has1 _ f0 f1 (fun y0 y1 => ?_) (fun y => ?_))
        | ((with_reducible refine (?_ : am_Does _ 113 _ _ _)); refine x_refuse _ ?_ (fun μr fr => ?_))
        | ((with_reducible refine (?_ : am_Does _ 116 _ _ _)); refine x_noPart _ cw (fun q => ?_) (fun q => ?_))
        | ((with_reducible refine (?_ : am_Does _ 2 _ _ _)); (refine x_take_8_1 (fun μ1 g1 s1 r1 => ?_); have p1 : fv μ1 8 = fv ν 1 := fv_tk s1 r1))
        | refine kk _ _ (sx_78 hS fr) ?_
        | ((with_reducible refine (?_ : am_AW _ _ _ _ _ 80 _ _ _)); refine ih _ _ _ _ _ ?_ ?_ ?_ ?_ ?_ ?_ ?_ ?_ ?_ ?_ ?_ ?_ ?_ ?_ ?_)
        | refine And.intro (fun h => absurd h (by decide)) (fun _ => ?_)
        | refine And.intro (fun _ => ?_) (fun h => absurd (by decide) h)
        | refine And.intro (fun _ => ?_) (fun _ => ?_)
        | refine And.intro ?_ ?_
      all_goals (first | decide | assumption | omega | exact W3 | (intro a b q1 q2 q3; rw [f3 a b (by omega) (by omega)]; exact fr2 a b q1 q2 q3) | (rw [show (k + 1).toNat = k.toNat + 1 by omega, fp_sS_s, e4]; rw [e4] at R3; exact R3) | (rw [show (k + 1).toNat = k.toNat + 1 by omega, n8, hv4]; simp only [fp_sZ]; rw [e4]) | (rw [show (k + 1).toNat = k.toNat + 1 by omega]; simp only [fp_sW]; rw [e4]; first | (rw [if_pos (by (simp only [c0, ci] at *; first | done | omega)), hv5]) | (rw [if_neg (by (simp only [c0, ci] at *; first | done | omega)), hv5])) | (rw [show (k + 1).toNat = k.toNat + 1 by omega, hv6]; simp only [fp_sGp]; rw [e4]) | (intro p hp; rw [f3 34 p (by decide) (by omega)]; exact b2 p hp) | (rw [f3 29 0 (by decide) (by omega), e29]; first | exact ⟨f0, f1⟩ | exact f0 | exact f1) | (rw [j0 2 (by decide) (by decide)]; exact hv10) | (unfold fp_sdr; rw [e4, if_neg (by omega), if_neg (by omega), if_neg (by omega), if_neg (by omega)]; first | (rw [if_pos (by (simp only [cw, l0] at *; first | done | omega)), hv5, kE]) | (rw [if_neg (by (simp only [cw, l0] at *; first | done | omega)), hv6, kE])) | (trace_state; fail))
  have lp80' : ∀ (y a b k : Int) (μ : am_N) , (∀ a b, ¬(8 ≤ a ∧ a < 15) → ¬(30 ≤ a ∧ a ≤ 34) → ¬(a = 29 ∧ b = 0) → μ a b = ν a b) → fp_rq (fv μ 8) (fv ν 1) ((fv ν 1) 0 1 + k) (fp_sS (fv ν 1) z k.toNat) → 0 ≤ k → k ≤ n → y = (fp_sZ (fv ν 1) z k.toNat) → a = fp_sW (fv ν 1) z i k.toNat → b = fp_sGp (fv ν 1) z k.toNat → sx_3 μ 34 → (0 ≤ μ 29 0 ∧ μ 29 0 ≤ 4) → fp_fw (999 + k) (fv μ 8) → fv μ 8 0 2 = (fv ν 1) 0 2 → (0 ≤ i ∧ i < ν 1 4) → (1 ≤ n ∧ n ≤ 20) → (w = 0 ∨ w = 1) → am_AW l 0 (fun _ => 0) 89 Q 80 [some (.inr (.inr 0)), some (.inl i), some (.inl n), some (.inl z), some (.inl w), some (.inl y), some (.inl a), some (.inl b), some (.inl k)] [] μ := fun y a b k μ hv0 hv1 hv2 hv3 hv4 hv5 hv6 hv7 hv8 hv9 hv10 hv11 hv12 hv13 => lp80 ((n - k) + 1).toNat y a b k μ hv0 hv1 hv2 hv3 hv4 hv5 hv6 hv7 hv8 hv9 hv10 hv11 hv12 hv13 (by omega)
  refine am_go (ct := fun pc => Nat.beq pc 80) am_oX6_seeds 300 ?_
  conv => whnf
  repeat' first
    | (refine (?_ : am_wp _ _ _ _ _ _ _ _ _ _ _ _); conv => whnf)
    | (refine (?_ : am_sw _ _ _ _); conv => whnf)
    | refine And.intro trivial ?_
    | exact trivial
    | (refine (?_ : fp_rq _ _ _ _); (first | decide | assumption | omega | rfl | ((simp only [ci] at *; first | done | omega)) | ((simp only [cn, l1, l20] at *; first | done | omega)) | (intro a b q1 q2 q3; exact g1 a b (by omega)) | (rw [p1, show fv ν 1 0 1 + 0 = fv ν 1 0 1 by omega]; exact fp_rq_rf (fv ν 1)) | (rw [p1, show (999 : Int) + 0 = 999 by omega]; exact hw) | (rw [p1]) | (intro p hp; rw [g1 34 p (by omega)]; exact hS.2.1 p hp) | (rw [g1 29 0 (by omega)]; first | exact h15.2.2.1 | exact h15.2.2.1.1 | exact h15.2.2.1.2 | exact h15.2.2.1.1 | exact h15.2.2.1.2) | (unfold fp_sdr; rw [e4, if_pos (by omega)]) | (unfold fp_sdr; rw [e4, if_neg (by omega), if_pos (by (simp only [cn, l1] at *; first | done | omega))]) | (unfold fp_sdr; rw [e4, if_neg (by omega), if_neg (by (simp only [cn, l1] at *; first | done | omega)), if_pos (by (simp only [cn, l20] at *; first | done | omega))]) | (unfold fp_sdr; rw [e4, if_neg (by omega), if_neg (by (simp only [cn, l1] at *; first | done | omega)), if_neg (by (simp only [cn, l20] at *; first | done | omega)), if_pos (by omega)]) | (trace_state; fail)))
    | (refine (?_ : fp_fw _ _); (first | decide | assumption | omega | rfl | ((simp only [ci] at *; first | done | omega)) | ((simp only [cn, l1, l20] at *; first | done | omega)) | (intro a b q1 q2 q3; exact g1 a b (by omega)) | (rw [p1, show fv ν 1 0 1 + 0 = fv ν 1 0 1 by omega]; exact fp_rq_rf (fv ν 1)) | (rw [p1, show (999 : Int) + 0 = 999 by omega]; exact hw) | (rw [p1]) | (intro p hp; rw [g1 34 p (by omega)]; exact hS.2.1 p hp) | (rw [g1 29 0 (by omega)]; first | exact h15.2.2.1 | exact h15.2.2.1.1 | exact h15.2.2.1.2 | exact h15.2.2.1.1 | exact h15.2.2.1.2) | (unfold fp_sdr; rw [e4, if_pos (by omega)]) | (unfold fp_sdr; rw [e4, if_neg (by omega), if_pos (by (simp only [cn, l1] at *; first | done | omega))]) | (unfold fp_sdr; rw [e4, if_neg (by omega), if_neg (by (simp only [cn, l1] at *; first | done | omega)), if_pos (by (simp only [cn, l20] at *; first | done | omega))]) | (unfold fp_sdr; rw [e4, if_neg (by omega), if_neg (by (simp only [cn, l1] at *; first | done | omega)), if_neg (by (simp only [cn, l20] at *; first | done | omega)), if_pos (by omega)]) | (trace_state; fail)))
    | ((with_reducible refine (?_ : am_Does _ 1 _ _ _)); refine x_has1 _ f0 f1 (fun y0 y1 => ?_) (fun y => ?_))
    | ((with_reducible refine (?_ : am_Does _ 113 _ _ _)); refine x_refuse _ ?_ (fun μr fr => ?_))
    | ((with_reducible refine (?_ : am_Does _ 116 _ _ _)); refine x_noPart _ cw (fun q => ?_) (fun q => ?_))
    | ((with_reducible refine (?_ : am_Does _ 2 _ _ _)); (refine x_take_8_1 (fun μ1 g1 s1 r1 => ?_); have p1 : fv μ1 8 = fv ν 1 := fv_tk s1 r1))
    | refine kk _ _ (sx_78 hS fr) ?_
    | ((with_reducible refine (?_ : am_AW _ _ _ _ _ 80 _ _ _)); refine lp80' _ _ _ _ _ ?_ ?_ ?_ ?_ ?_ ?_ ?_ ?_ ?_ ?_ ?_ ?_ ?_ ?_)
    | refine And.intro (fun h => absurd h (by decide)) (fun _ => ?_)
    | refine And.intro (fun _ => ?_) (fun h => absurd (by decide) h)
    | refine And.intro (fun _ => ?_) (fun _ => ?_)
    | refine And.intro ?_ ?_
  all_goals (first | decide | assumption | omega | rfl | ((simp only [ci] at *; first | done | omega)) | ((simp only [cn, l1, l20] at *; first | done | omega)) | (intro a b q1 q2 q3; exact g1 a b (by omega)) | (rw [p1, show fv ν 1 0 1 + 0 = fv ν 1 0 1 by omega]; exact fp_rq_rf (fv ν 1)) | (rw [p1, show (999 : Int) + 0 = 999 by omega]; exact hw) | (rw [p1]) | (intro p hp; rw [g1 34 p (by omega)]; exact hS.2.1 p hp) | (rw [g1 29 0 (by omega)]; first | exact h15.2.2.1 | exact h15.2.2.1.1 | exact h15.2.2.1.2 | exact h15.2.2.1.1 | exact h15.2.2.1.2) | (unfold fp_sdr; rw [e4, if_pos (by omega)]) | (unfold fp_sdr; rw [e4, if_neg (by omega), if_pos (by (simp only [cn, l1] at *; first | done | omega))]) | (unfold fp_sdr; rw [e4, if_neg (by omega), if_neg (by (simp only [cn, l1] at *; first | done | omega)), if_pos (by (simp only [cn, l20] at *; first | done | omega))]) | (unfold fp_sdr; rw [e4, if_neg (by omega), if_neg (by (simp only [cn, l1] at *; first | done | omega)), if_neg (by (simp only [cn, l20] at *; first | done | omega)), if_pos (by omega)]) | (trace_state; fail))
theorem gm_t99 {μ : am_N} {q : Nat} {v : Int} (h : mi μ) : gm mM μ (am_up μ 99 q v) := gm_runs h (fun a b _ _ _ q4 _ => am_upN q4) (fun p hp => by rw [am_upN (by decide)]; exact mi_or h p hp)
theorem x_partZ {l : Launch} {ν : am_N} {Q : Option am_V → am_N → Prop} (i q : Int) (i0 : 0 ≤ i) (i1 : i < ν 83 14) (hf : am_fM ν) (sp : 0 ≤ ν 88 i.toNat ∧ ν 88 i.toNat ≤ 20) (k : Q (some (.inl (fp_pz (am_TM ν i.toNat) (ν 88 i.toNat) q))) ν) : am_Does l 167 [.inr (.inr 83), .inl i, .inl q] ν Q := by
  refine am_Does_of (Nat.le_of_ble_eq_true rfl) (Nat.le_of_ble_eq_true rfl) (Nat.le_of_ble_eq_true rfl) ?_
  have l0 : am_c 0 = 0 := rfl
  have l1 : am_c 1 = 1 := rfl
  have l2 : am_c 2 = 2 := rfl
  have l3 : am_c 3 = 3 := rfl
  have l4 : am_c 4 = 4 := rfl
  have l20 : am_c 20 = 20 := rfl
  have h4 := hf.1
  have ci : am_c i = i := am_cR (by omega) (by omega)
  have ei : (am_c i).toNat = i.toNat := by rw [ci]
  have z := am_TM_b (i := i.toNat) hf (by omega)
  have kk := fun (x : Int) (e : x = fp_pz (am_TM ν i.toNat) (ν 88 i.toNat) q) => am_qe k e
  refine am_go (ct := fun _ => false) am_oX7_partTime 300 ?_
  conv => whnf
  repeat' first
    | (refine (?_ : am_wp _ _ _ _ _ _ _ _ _ _ _ _); conv => whnf)
    | (refine (?_ : am_sw _ _ _ _); conv => whnf)
    | refine And.intro trivial ?_
    | exact trivial
    | ((with_reducible refine (?_ : am_Does _ 164 _ _ _)); refine x_timeOf i i0 i1 hf ?_)
    | ((with_reducible refine (?_ : am_Does _ 145 _ _ _)); refine x_atLeastOne _ ?_ ?_ ?_)
    | refine kk _ ?_
    | refine And.intro (fun h => absurd h (by decide)) (fun _ => ?_)
    | refine And.intro (fun _ => ?_) (fun h => absurd (by decide) h)
    | refine And.intro (fun _ => ?_) (fun _ => ?_)
    | refine And.intro ?_ ?_
  all_goals (first | decide | omega | (rw [ci]; omega) | (simp only [ei]; omega) | ((try simp only [ei]); unfold fp_pz; first | (rw [if_pos (show am_c q = 0 by assumption)]) | (rw [if_neg (show ¬ am_c q = 0 by assumption), if_pos (show am_c q = 3 by assumption)]) | (rw [if_neg (show ¬ am_c q = 0 by assumption), if_neg (show ¬ am_c q = 3 by assumption)])) | (trace_state; fail))
theorem n_seeds {l : Launch} {ν : am_N} {Q : Option am_V → am_N → Prop} (i n z w : Int) (ci : am_c i = i) (cn : am_c n = n) (cw : am_c w = w) (hm : mi ν) (hw : fp_fw 999 (mv ν)) (k : ∀ μ' : am_N, gm mQ ν μ' → Q (some (.inl (fp_sdr (mv ν) i n z w))) μ') : am_Does l 249 [.inr (.inr 83), .inl i, .inl n, .inl z, .inl w] ν Q := by
  refine am_Does_of (Nat.le_of_ble_eq_true rfl) (Nat.le_of_ble_eq_true rfl) (Nat.le_of_ble_eq_true rfl) ?_
  have l0 : am_c 0 = 0 := rfl
  have l1 : am_c 1 = 1 := rfl
  have l2 : am_c 2 = 2 := rfl
  have l3 : am_c 3 = 3 := rfl
  have l4 : am_c 4 = 4 := rfl
  have l20 : am_c 20 = 20 := rfl
  have m1' : am_c (-1) = -1 := rfl
  have m2' : am_c (-2) = -2 := rfl
  have m3' : am_c (-3) = -3 := rfl
  have m4' : am_c (-4) = -4 := rfl
  have m6' : am_c (-6) = -6 := rfl
  have m9' : am_c (-9) = -9 := rfl
  have hm0 := hm
  obtain ⟨hf, -, -, -, -, -, hx⟩ := fw_M hw (by decide)
  have f0 := hf.1.1
  have f1 := hf.1.2
  have e4 : mv ν 0 4 = ν 83 14 := rfl
  have kk := fun (x : Int) (μ' : am_N) (h : gm mQ ν μ') (e : x = fp_sdr (mv ν) i n z w) => am_qe (k μ' h) e
  clear k
  have lp131 : ∀ (y a b k j : Int) (μ : am_N), MD mQ ν μ → fp_rq (mv μ) (mv ν) ((mv ν) 0 1 + k) (fp_sS (mv ν) z k.toNat) → mv μ 0 2 = (mv ν) 0 2 → fp_fw (999 + k) (mv μ) → 0 ≤ k → a = fp_sW (mv ν) z i k.toNat → b = fp_sGp (mv ν) z k.toNat → (0 ≤ i ∧ i < ν 83 14) → (1 ≤ n ∧ n ≤ 20) → (w = 0 ∨ w = 1) → k < n → y = fp_zi (fp_sZ (mv ν) z k.toNat) (ν 83 14).toNat → (∀ q : Nat, (q : Int) < ν 83 14 → μ 99 q = (fp_sT (mv ν) z k.toNat) q) → (∀ (y a b : Int) (oj : Option am_V) (μ : am_N), MD mQ ν μ → fp_rq (mv μ) (mv ν) ((mv ν) 0 1 + (k + 1)) (fp_sS (mv ν) z (k.toNat + 1)) → mv μ 0 2 = (mv ν) 0 2 → fp_fw (999 + (k + 1)) (mv μ) → a = fp_sW (mv ν) z i (k.toNat + 1) → b = fp_sGp (mv ν) z (k.toNat + 1) → y = fp_sZ (mv ν) z (k.toNat + 1) → am_AW l 0 (fun _ => 0) 249 Q 70 [some (.inr (.inr 83)), some (.inl i), some (.inl n), some (.inl z), some (.inl w), some (.inl 0), some (.inl y), some (.inl a), some (.inl b), some (.inl (k + 1)), oj] [] μ) → am_AW l 0 (fun _ => 0) 249 Q 131 [some (.inr (.inr 83)), some (.inl i), some (.inl n), some (.inl z), some (.inl w), some (.inl 0), some (.inl y), some (.inl a), some (.inl b), some (.inl k), some (.inl j)] [] μ := by
    intro y a b k j μ hv0 hv1 hv2 hv3 hv4 hv5 hv6 hv7 hv8 hv9 hv10 hv11 hv12 hv13
    have ck : am_c k = k := am_cR (by omega) (by omega)
    have ek : ((k.toNat : Nat) : Int) = k := Int.toNat_of_nonneg hv4
    have hmi := md_i hv0
    have h8 : fp_fw 1019 (mv μ) := fw_mono hv3 (by omega)
    have n8 : μ 83 14 = ν 83 14 := hv1.1 4 (by decide) (by decide) (by decide)
    obtain ⟨hf8, hr8, hy8, hs8, -, -, hx8⟩ := fw_M h8 (by decide)
    have cn8 : am_c (ν 83 14) = ν 83 14 := am_cR (by omega) (by omega)
    refine am_go (ct := fun pc => Nat.beq pc 131 || Nat.beq pc 79 || Nat.beq pc 70) am_oX7_seeds 300 ?_
    conv => whnf
    repeat' first
      | (refine (?_ : am_wp _ _ _ _ _ _ _ _ _ _ _ _); conv => whnf)
      | (refine (?_ : am_sw _ _ _ _); conv => whnf)
      | refine And.intro trivial ?_
      | exact trivial
      | (refine (?_ : fp_rq _ _ _ _); (first | decide | assumption | omega | (rw [w0']; omega) | exact R3 | exact W3 | exact md_tr hv0 hG2 (fun _ _ q => q) | (rw [j0 2 (by decide) (by decide)]; exact hv2) | (rw [hv5]; simp only [fp_sW]; rw [e4]; first | (rw [if_pos (by (simp only [w0', c0, ci] at *; first | done | omega))]) | (rw [if_neg (by (simp only [w0', c0, ci] at *; first | done | omega))]; omega) | (exfalso; (simp only [w0', c0, ci] at *; first | done | omega))) | (rw [hv6]; simp only [fp_sGp]; rw [e4]; unfold fp_gz; first | (rw [if_pos (by (simp only [m8, cn8, l1] at *; first | done | omega))]) | (rw [if_neg (by (simp only [m8, cn8, l1] at *; first | done | omega))])) | (rw [hv11]; rfl) | (trace_state; fail)))
      | (refine (?_ : fp_fw _ _); (first | decide | assumption | omega | (rw [w0']; omega) | exact R3 | exact W3 | exact md_tr hv0 hG2 (fun _ _ q => q) | (rw [j0 2 (by decide) (by decide)]; exact hv2) | (rw [hv5]; simp only [fp_sW]; rw [e4]; first | (rw [if_pos (by (simp only [w0', c0, ci] at *; first | done | omega))]) | (rw [if_neg (by (simp only [w0', c0, ci] at *; first | done | omega))]; omega) | (exfalso; (simp only [w0', c0, ci] at *; first | done | omega))) | (rw [hv6]; simp only [fp_sGp]; rw [e4]; unfold fp_gz; first | (rw [if_pos (by (simp only [m8, cn8, l1] at *; first | done | omega))]) | (rw [if_neg (by (simp only [m8, cn8, l1] at *; first | done | omega))])) | (rw [hv11]; rfl) | (trace_state; fail)))
      | ((with_reducible refine (?_ : am_Does _ 165 _ _ _)); (have b0 := fp_od_b (fp_sT (mv ν) z k.toNat) (ν 83 14) 0; have b1 := fp_od_b (fp_sT (mv ν) z k.toNat) (ν 83 14) (ν 83 14 - 1); have c0 : am_c (fp_od (fp_sT (mv ν) z k.toNat) (ν 83 14) 0) = fp_od (fp_sT (mv ν) z k.toNat) (ν 83 14) 0 := am_cR (by omega) (by omega); have o0 : fp_od (fp_sT (mv ν) z k.toNat) (ν 83 14) 0 < ν 83 14 := fp_od_n f1 (by decide) (by omega); have o1 : fp_od (fp_sT (mv ν) z k.toNat) (ν 83 14) (ν 83 14 - 1) < ν 83 14 := fp_od_n f1 (by omega) (by omega); have hT : ∀ q : Nat, (q : Int) < ν 83 14 → 1 ≤ μ 99 q ∧ μ 99 q ≤ 100020 := (fun q hq => by have tq := am_TM_b (i := q) hf8 (by rw [n8]; exact hq); have sq := (hx8 q (by rw [n8]; exact hq)).2.2.2; rw [hv12 q hq, show (fp_sT (mv ν) z k.toNat) q = fp_zt (mv μ) (fp_sZ (mv ν) z k.toNat) q from (by rw [fp_rq_z hv1 (by omega)]; show fp_zt (fp_wks (mv ν) (mv ν 0 1 + ((k.toNat : Nat) : Int)) (fp_sS (mv ν) z k.toNat)) (fp_sZ (mv ν) z k.toNat) q = _; rw [ek])]; unfold fp_zt; exact fp_pz_b (by rw [← mv_T (by omega)]; exact tq.1) (by rw [← mv_T (by omega)]; omega) (by rw [show mv μ 4 q = μ 88 q from mv_a (a := 3) (by decide) (by omega)]; exact sq.1) (by rw [show mv μ 4 q = μ 88 q from mv_a (a := 3) (by decide) (by omega)]; exact sq.2)); refine x_sorts (by rw [n8]; exact f0) (by rw [n8]; exact f1) (fun q hq => by rw [n8] at hq; have z1 := hT q hq; omega) (fun μ1 g1 o2 s1 => ?_); rw [n8] at o2; have m8 : μ1 83 14 = ν 83 14 := (g1 83 14 (by decide)).trans n8; have w0 : μ1 100 0 = fp_od (fp_sT (mv ν) z k.toNat) (ν 83 14) 0 := (by rw [fp_od_o f1 o2 0 (by omega)]; exact fp_od_i2 f1 (by omega) (fun q hq => hv12 q hq)); have w0' : μ1 100 (am_c 0).toNat = fp_od (fp_sT (mv ν) z k.toNat) (ν 83 14) 0 := w0; have w1 : 1 < ν 83 14 → μ1 100 1 = fp_od (fp_sT (mv ν) z k.toNat) (ν 83 14) 1 := (fun d => by rw [fp_od_o f1 o2 1 (by omega)]; exact fp_od_i2 f1 (by omega) (fun q hq => hv12 q hq)); have wg : μ1 100 (μ1 83 14 - 1).toNat = fp_od (fp_sT (mv ν) z k.toNat) (ν 83 14) (ν 83 14 - 1) := (by rw [m8, fp_od_o f1 o2 _ (by omega), fp_od_i2 f1 (by omega) (fun q hq => hv12 q hq), show (((ν 83 14 - 1).toNat : Nat) : Int) = ν 83 14 - 1 by omega])))
      | ((with_reducible refine (?_ : am_Does _ 189 _ _ _)); (have d1 : 1 < ν 83 14 := (by (simp only [m8, cn8, l1] at *; first | done | omega)); have b2 := fp_od_b (fp_sT (mv ν) z k.toNat) (ν 83 14) 1; have o2n : fp_od (fp_sT (mv ν) z k.toNat) (ν 83 14) 1 < ν 83 14 := fp_od_n f1 (by decide) d1; refine n_gap (fp_od (fp_sT (mv ν) z k.toNat) (ν 83 14) 0) (fp_od (fp_sT (mv ν) z k.toNat) (ν 83 14) 1) w0 (w1 d1) (by omega) (by omega) (by omega) (by omega) ?_; rw [g1 99 _ (by decide), g1 99 _ (by decide), hv12 _ (by omega), hv12 _ (by omega)]))
      | ((with_reducible refine (?_ : am_Does _ 171 _ _ _)); (refine x_mends (fp_od (fp_sT (mv ν) z k.toNat) (ν 83 14) 0) (fp_od (fp_sT (mv ν) z k.toNat) (ν 83 14) (ν 83 14 - 1)) w0 wg b0.1 (by rw [m8]; exact o0) b1.1 (by rw [m8]; exact o1) (by rw [m8]; exact f1) (by rw [g1 83 12 (by decide)]; exact hr8) (by rw [g1 83 13 (by decide)]; exact hy8) (fun q hq => by rw [g1 89 q (by decide)]; exact hs8 q hq) (fun μ2 f2 s2 v2 k2 => ?_); rw [g1 83 12 (by decide), g1 83 13 (by decide), g1 83 14 (by decide), show μ1 89 = μ 89 from funext (fun q => g1 89 q (by decide))] at s2; have f12 : ∀ a b, a ≠ 89 → a ≠ 90 → a ≠ 100 → ¬(a = 83 ∧ b = 11) → μ2 a b = μ a b := (fun a b q1 q2 q3 q4 => (f2 a b q1 q2 q4).trans (g1 a b q3)); have j0 : ∀ b : Nat, b < 5 → b ≠ 1 → mv μ2 0 b = mv μ 0 b := (fun b hb q => by rw [mv_0 hb, mv_0 hb]; exact f12 83 (10 + b) (by decide) (by decide) (by decide) (by omega)); have j1 : mv μ2 0 1 = mv μ 0 1 + 1 := k2.trans (congrArg (fun x => x + 1) (g1 83 11 (by decide))); have ja : ∀ a b : Nat, 0 < a → a < 5 → b < 4 → mv μ2 a b = mv μ a b := (fun a b q1 q2 q3 => by obtain ⟨a, rfl⟩ : ∃ e, a = e + 1 := ⟨a - 1, by omega⟩; rw [mv_a (by omega) q3, mv_a (by omega) q3]; exact f12 (85 + a) b (by omega) (by omega) (by omega) (by omega)); have j5 : ∀ b : Nat, b < 4 → mv μ2 5 b = am_mn (mv μ 0 2) (mv μ 0 3) (mv μ 0 4) (fp_od (fp_sT (mv ν) z k.toNat) (ν 83 14) 0) (fp_od (fp_sT (mv ν) z k.toNat) (ν 83 14) (ν 83 14 - 1)) (mv μ 5) b := (fun b hb => by rw [mv_5 hb, s2, mv_r, mv_y, mv_n]; exact am_mn_c b0.1 b0.2 b1.1 b1.2 (fun x hx => (mv_5 hx).symm) b hb); have R3 := fp_rq_m (w2 := mv ν 0 1 + (k + 1)) hv1 hv2 b0.1 b0.2 b1.1 b1.2 (by omega) j0 j1 ja j5; have W3 := fw_s5 (V := 999 + (k + 1)) hv3 (by omega) j0 j1 ja (fun b hb => by rw [j5 b hb]; exact am_mn_b hv3.2.2.2.2.2.1 b hb); have hG2 : gm mM μ μ2 := gm_runs hmi (fun a b q1 q2 q3 q4 q5 => f12 a b q1 q2 q5 q3) (fun p hp => by rw [f2 100 p (by decide) (by decide) (by omega)]; exact s1 (fun p hp => mi_or hmi p hp) p hp)))
      | (refine hv13 _ _ _ _ _ ?_ ?_ ?_ ?_ ?_ ?_ ?_)
      | ((with_reducible refine (?_ : am_Does _ 146 _ _ _)); refine x_isRunnerT _ f0 f1 (fun y0 y1 => ?_) (fun y => ?_))
      | ((with_reducible refine (?_ : am_Does _ 144 _ _ _)); refine x_bound _ _ _ ?_ ?_ ?_ (fun _ => ?_) (fun _ => ?_) (fun _ _ => ?_))
      | ((with_reducible refine (?_ : am_Does _ 143 _ _ _)); refine x_isIn w _ _ _ rfl cw ?_ ?_ (fun _ _ => ?_) (fun _ => ?_))
      | ((with_reducible refine (?_ : am_Does _ 140 _ _ _)); refine x_no _ ?_ (fun μr fr => ?_))
      | ((with_reducible refine (?_ : am_Does _ 159 _ _ _)); (refine m_keep1 (fun μ1 u1 _ _ _ => ?_); have hD : MD mQ ν μ1 := md_start (gm_rf hm0) u1; have p1 : mv μ1 = (mv ν) := mv_keep (fun a b q => u1.2 a b (by omega) (by omega))))
      | refine kk _ _ (gm_84 (fun _ => rfl) hm0 fr) ?_
      | ((with_reducible refine (?_ : _ ∧ _)); refine And.intro (fun h => absurd h (by omega)) (fun _ => ?_))
      | ((with_reducible refine (?_ : _ ∧ _)); refine And.intro (fun _ => ?_) (fun h => absurd h (by omega)))
      | refine And.intro (fun h => absurd h (by decide)) (fun _ => ?_)
      | refine And.intro (fun _ => ?_) (fun h => absurd (by decide) h)
      | refine And.intro (fun _ => ?_) (fun _ => ?_)
      | refine And.intro ?_ ?_
    all_goals (first | decide | assumption | omega | (rw [w0']; omega) | exact R3 | exact W3 | exact md_tr hv0 hG2 (fun _ _ q => q) | (rw [j0 2 (by decide) (by decide)]; exact hv2) | (rw [hv5]; simp only [fp_sW]; rw [e4]; first | (rw [if_pos (by (simp only [w0', c0, ci] at *; first | done | omega))]) | (rw [if_neg (by (simp only [w0', c0, ci] at *; first | done | omega))]; omega) | (exfalso; (simp only [w0', c0, ci] at *; first | done | omega))) | (rw [hv6]; simp only [fp_sGp]; rw [e4]; unfold fp_gz; first | (rw [if_pos (by (simp only [m8, cn8, l1] at *; first | done | omega))]) | (rw [if_neg (by (simp only [m8, cn8, l1] at *; first | done | omega))])) | (rw [hv11]; rfl) | (trace_state; fail))
  have lp79 : ∀ (m : Nat) (y a b k j : Int) (μ : am_N) , MD mQ ν μ → fp_rq (mv μ) (mv ν) ((mv ν) 0 1 + k) (fp_sS (mv ν) z k.toNat) → mv μ 0 2 = (mv ν) 0 2 → fp_fw (999 + k) (mv μ) → 0 ≤ k → a = fp_sW (mv ν) z i k.toNat → b = fp_sGp (mv ν) z k.toNat → (0 ≤ i ∧ i < ν 83 14) → (1 ≤ n ∧ n ≤ 20) → (w = 0 ∨ w = 1) → k < n → 0 ≤ j → j ≤ ν 83 14 → y = fp_zi (fp_sZ (mv ν) z k.toNat) j.toNat → (∀ q : Nat, (q : Int) < j → μ 99 q = (fp_sT (mv ν) z k.toNat) q) → (∀ (y a b : Int) (oj : Option am_V) (μ : am_N), MD mQ ν μ → fp_rq (mv μ) (mv ν) ((mv ν) 0 1 + (k + 1)) (fp_sS (mv ν) z (k.toNat + 1)) → mv μ 0 2 = (mv ν) 0 2 → fp_fw (999 + (k + 1)) (mv μ) → a = fp_sW (mv ν) z i (k.toNat + 1) → b = fp_sGp (mv ν) z (k.toNat + 1) → y = fp_sZ (mv ν) z (k.toNat + 1) → am_AW l 0 (fun _ => 0) 249 Q 70 [some (.inr (.inr 83)), some (.inl i), some (.inl n), some (.inl z), some (.inl w), some (.inl 0), some (.inl y), some (.inl a), some (.inl b), some (.inl (k + 1)), oj] [] μ) → ν 83 14 - j < (m : Int) → am_AW l 0 (fun _ => 0) 249 Q 79 [some (.inr (.inr 83)), some (.inl i), some (.inl n), some (.inl z), some (.inl w), some (.inl 0), some (.inl y), some (.inl a), some (.inl b), some (.inl k), some (.inl j)] [] μ := by
    intro m
    induction m with
    | zero =>
      intro y a b k j μ hv0 hv1 hv2 hv3 hv4 hv5 hv6 hv7 hv8 hv9 hv10 hv11 hv12 hv13 hv14 hv15 hm
      exfalso
      omega
    | succ m ih =>
      intro y a b k j μ hv0 hv1 hv2 hv3 hv4 hv5 hv6 hv7 hv8 hv9 hv10 hv11 hv12 hv13 hv14 hv15 hm
      have ck : am_c k = k := am_cR (by omega) (by omega)
      have ek : ((k.toNat : Nat) : Int) = k := Int.toNat_of_nonneg hv4
      have hmi := md_i hv0
      have h8 : fp_fw 1019 (mv μ) := fw_mono hv3 (by omega)
      have n8 : μ 83 14 = ν 83 14 := hv1.1 4 (by decide) (by decide) (by decide)
      obtain ⟨hf8, hr8, hy8, hs8, -, -, hx8⟩ := fw_M h8 (by decide)
      have cn8 : am_c (ν 83 14) = ν 83 14 := am_cR (by omega) (by omega)
      have cj : am_c j = j := am_cR (by omega) (by omega)
      have ej : (am_c j).toNat = j.toNat := by rw [cj]
      have ez : fp_zq (fp_zi (fp_sZ (mv ν) z k.toNat) (j.toNat + 1)) = ((am_c ((am_c (am_and (y * 1103515245 + 12345) 2147483647)).tdiv (am_c 65536))).tmod (am_c 4)) := by rw [fp_zi_s, ← hv13]; rfl
      have mU : ∀ (q : Nat) (v : Int), mv (am_up μ 99 q v) = mv μ := fun q v => mv_keep (fun a b q1 => am_upN (by omega))
      have eTj := fun q : j < ν 83 14 => (show fp_pz (am_TM μ j.toNat) (μ 88 j.toNat) ((am_c ((am_c (am_and (y * 1103515245 + 12345) 2147483647)).tdiv (am_c 65536))).tmod (am_c 4)) = (fp_sT (mv ν) z k.toNat) j.toNat by
        rw [← ez, mv_T (by omega), ← show mv μ 4 j.toNat = μ 88 j.toNat from mv_a (a := 3) (by decide) (by omega)]
        show fp_zt (mv μ) (fp_sZ (mv ν) z k.toNat) j.toNat = fp_zt (fp_wks (mv ν) (mv ν 0 1 + ((k.toNat : Nat) : Int)) (fp_sS (mv ν) z k.toNat)) (fp_sZ (mv ν) z k.toNat) j.toNat
        rw [fp_rq_z hv1 (by omega), ek])
      refine am_go (ct := fun pc => Nat.beq pc 131 || Nat.beq pc 79 || Nat.beq pc 70) am_oX7_seeds 300 ?_
      conv => whnf
      repeat' first
        | (refine (?_ : am_wp _ _ _ _ _ _ _ _ _ _ _ _); conv => whnf)
        | (refine (?_ : am_sw _ _ _ _); conv => whnf)
        | refine And.intro trivial ?_
        | exact trivial
        | (refine (?_ : fp_rq _ _ _ _); (first | decide | assumption | omega | (rw [ej]; omega) | (rw [cj]; omega) | ((simp only [cj, n8, cn8] at *; first | done | omega)) | (exact md_tr hv0 (gm_t99 hmi) (fun _ _ q => q)) | (rw [mU]; assumption) | (rw [show (j + 1).toNat = j.toNat + 1 by omega, fp_zi_s, ← hv13]) | (intro q hq; by_cases d : (q : Int) = j; (rw [am_upS, if_pos ⟨rfl, by rw [ej]; omega⟩, show q = j.toNat by omega]; exact eTj jN); (rw [am_upM (by rw [ej]; omega)]; exact hv14 q (by omega))) | (rw [hv13, show j.toNat = (ν 83 14).toNat by (simp only [cj, n8, cn8] at *; first | done | omega)]) | (intro q hq; exact hv14 q (by (simp only [cj, n8, cn8] at *; first | done | omega))) | (trace_state; fail)))
        | (refine (?_ : fp_fw _ _); (first | decide | assumption | omega | (rw [ej]; omega) | (rw [cj]; omega) | ((simp only [cj, n8, cn8] at *; first | done | omega)) | (exact md_tr hv0 (gm_t99 hmi) (fun _ _ q => q)) | (rw [mU]; assumption) | (rw [show (j + 1).toNat = j.toNat + 1 by omega, fp_zi_s, ← hv13]) | (intro q hq; by_cases d : (q : Int) = j; (rw [am_upS, if_pos ⟨rfl, by rw [ej]; omega⟩, show q = j.toNat by omega]; exact eTj jN); (rw [am_upM (by rw [ej]; omega)]; exact hv14 q (by omega))) | (rw [hv13, show j.toNat = (ν 83 14).toNat by (simp only [cj, n8, cn8] at *; first | done | omega)]) | (intro q hq; exact hv14 q (by (simp only [cj, n8, cn8] at *; first | done | omega))) | (trace_state; fail)))
        | ((with_reducible refine (?_ : am_Does _ 167 _ _ _)); (have jN : j < ν 83 14 := (by (simp only [cj, n8, cn8] at *; first | done | omega)); refine x_partZ j _ hv11 (by rw [n8]; exact jN) hf8 (hx8 j.toNat (by rw [n8]; omega)).2.2.2 ?_))
        | ((with_reducible refine (?_ : am_Does _ 146 _ _ _)); refine x_isRunnerT _ f0 f1 (fun y0 y1 => ?_) (fun y => ?_))
        | ((with_reducible refine (?_ : am_Does _ 144 _ _ _)); refine x_bound _ _ _ ?_ ?_ ?_ (fun _ => ?_) (fun _ => ?_) (fun _ _ => ?_))
        | ((with_reducible refine (?_ : am_Does _ 143 _ _ _)); refine x_isIn w _ _ _ rfl cw ?_ ?_ (fun _ _ => ?_) (fun _ => ?_))
        | ((with_reducible refine (?_ : am_Does _ 140 _ _ _)); refine x_no _ ?_ (fun μr fr => ?_))
        | ((with_reducible refine (?_ : am_Does _ 159 _ _ _)); (refine m_keep1 (fun μ1 u1 _ _ _ => ?_); have hD : MD mQ ν μ1 := md_start (gm_rf hm0) u1; have p1 : mv μ1 = (mv ν) := mv_keep (fun a b q => u1.2 a b (by omega) (by omega))))
        | refine kk _ _ (gm_84 (fun _ => rfl) hm0 fr) ?_
        | ((with_reducible refine (?_ : _ ∧ _)); refine And.intro (fun h => absurd h (by omega)) (fun _ => ?_))
        | ((with_reducible refine (?_ : _ ∧ _)); refine And.intro (fun _ => ?_) (fun h => absurd h (by omega)))
        | ((with_reducible refine (?_ : am_AW _ _ _ _ _ 79 _ _ _)); refine ih _ _ _ _ _ _ ?_ ?_ ?_ ?_ ?_ ?_ ?_ ?_ ?_ ?_ ?_ ?_ ?_ ?_ ?_ ?_ ?_)
        | ((with_reducible refine (?_ : am_AW _ _ _ _ _ 131 _ _ _)); refine lp131 _ _ _ _ _ _ ?_ ?_ ?_ ?_ ?_ ?_ ?_ ?_ ?_ ?_ ?_ ?_ ?_ ?_)
        | refine And.intro (fun h => absurd h (by decide)) (fun _ => ?_)
        | refine And.intro (fun _ => ?_) (fun h => absurd (by decide) h)
        | refine And.intro (fun _ => ?_) (fun _ => ?_)
        | refine And.intro ?_ ?_
      all_goals (first | decide | assumption | omega | (rw [ej]; omega) | (rw [cj]; omega) | ((simp only [cj, n8, cn8] at *; first | done | omega)) | (exact md_tr hv0 (gm_t99 hmi) (fun _ _ q => q)) | (rw [mU]; assumption) | (rw [show (j + 1).toNat = j.toNat + 1 by omega, fp_zi_s, ← hv13]) | (intro q hq; by_cases d : (q : Int) = j; (rw [am_upS, if_pos ⟨rfl, by rw [ej]; omega⟩, show q = j.toNat by omega]; exact eTj jN); (rw [am_upM (by rw [ej]; omega)]; exact hv14 q (by omega))) | (rw [hv13, show j.toNat = (ν 83 14).toNat by (simp only [cj, n8, cn8] at *; first | done | omega)]) | (intro q hq; exact hv14 q (by (simp only [cj, n8, cn8] at *; first | done | omega))) | (trace_state; fail))
  have lp79' : ∀ (y a b k j : Int) (μ : am_N) , MD mQ ν μ → fp_rq (mv μ) (mv ν) ((mv ν) 0 1 + k) (fp_sS (mv ν) z k.toNat) → mv μ 0 2 = (mv ν) 0 2 → fp_fw (999 + k) (mv μ) → 0 ≤ k → a = fp_sW (mv ν) z i k.toNat → b = fp_sGp (mv ν) z k.toNat → (0 ≤ i ∧ i < ν 83 14) → (1 ≤ n ∧ n ≤ 20) → (w = 0 ∨ w = 1) → k < n → 0 ≤ j → j ≤ ν 83 14 → y = fp_zi (fp_sZ (mv ν) z k.toNat) j.toNat → (∀ q : Nat, (q : Int) < j → μ 99 q = (fp_sT (mv ν) z k.toNat) q) → (∀ (y a b : Int) (oj : Option am_V) (μ : am_N), MD mQ ν μ → fp_rq (mv μ) (mv ν) ((mv ν) 0 1 + (k + 1)) (fp_sS (mv ν) z (k.toNat + 1)) → mv μ 0 2 = (mv ν) 0 2 → fp_fw (999 + (k + 1)) (mv μ) → a = fp_sW (mv ν) z i (k.toNat + 1) → b = fp_sGp (mv ν) z (k.toNat + 1) → y = fp_sZ (mv ν) z (k.toNat + 1) → am_AW l 0 (fun _ => 0) 249 Q 70 [some (.inr (.inr 83)), some (.inl i), some (.inl n), some (.inl z), some (.inl w), some (.inl 0), some (.inl y), some (.inl a), some (.inl b), some (.inl (k + 1)), oj] [] μ) → am_AW l 0 (fun _ => 0) 249 Q 79 [some (.inr (.inr 83)), some (.inl i), some (.inl n), some (.inl z), some (.inl w), some (.inl 0), some (.inl y), some (.inl a), some (.inl b), some (.inl k), some (.inl j)] [] μ := fun y a b k j μ hv0 hv1 hv2 hv3 hv4 hv5 hv6 hv7 hv8 hv9 hv10 hv11 hv12 hv13 hv14 hv15 => lp79 ((ν 83 14 - j) + 1).toNat y a b k j μ hv0 hv1 hv2 hv3 hv4 hv5 hv6 hv7 hv8 hv9 hv10 hv11 hv12 hv13 hv14 hv15 (by omega)
  have lp70 : ∀ (m : Nat) (y a b k : Int) (oj : Option am_V) (μ : am_N) , MD mQ ν μ → fp_rq (mv μ) (mv ν) ((mv ν) 0 1 + k) (fp_sS (mv ν) z k.toNat) → mv μ 0 2 = (mv ν) 0 2 → fp_fw (999 + k) (mv μ) → 0 ≤ k → a = fp_sW (mv ν) z i k.toNat → b = fp_sGp (mv ν) z k.toNat → (0 ≤ i ∧ i < ν 83 14) → (1 ≤ n ∧ n ≤ 20) → (w = 0 ∨ w = 1) → k ≤ n → y = (fp_sZ (mv ν) z k.toNat) → n - k < (m : Int) → am_AW l 0 (fun _ => 0) 249 Q 70 [some (.inr (.inr 83)), some (.inl i), some (.inl n), some (.inl z), some (.inl w), some (.inl 0), some (.inl y), some (.inl a), some (.inl b), some (.inl k), oj] [] μ := by
    intro m
    induction m with
    | zero =>
      intro y a b k oj μ hv0 hv1 hv2 hv3 hv4 hv5 hv6 hv7 hv8 hv9 hv10 hv11 hm
      exfalso
      omega
    | succ m ih =>
      intro y a b k oj μ hv0 hv1 hv2 hv3 hv4 hv5 hv6 hv7 hv8 hv9 hv10 hv11 hm
      have ck : am_c k = k := am_cR (by omega) (by omega)
      have ek : ((k.toNat : Nat) : Int) = k := Int.toNat_of_nonneg hv4
      have hmi := md_i hv0
      have h8 : fp_fw 1019 (mv μ) := fw_mono hv3 (by omega)
      have n8 : μ 83 14 = ν 83 14 := hv1.1 4 (by decide) (by decide) (by decide)
      obtain ⟨hf8, hr8, hy8, hs8, -, -, hx8⟩ := fw_M h8 (by decide)
      have cn8 : am_c (ν 83 14) = ν 83 14 := am_cR (by omega) (by omega)
      refine am_go (ct := fun pc => Nat.beq pc 131 || Nat.beq pc 79 || Nat.beq pc 70) am_oX7_seeds 300 ?_
      conv => whnf
      repeat' first
        | (refine (?_ : am_wp _ _ _ _ _ _ _ _ _ _ _ _); conv => whnf)
        | (refine (?_ : am_sw _ _ _ _); conv => whnf)
        | refine And.intro trivial ?_
        | exact trivial
        | (refine (?_ : fp_rq _ _ _ _); (first | decide | assumption | omega | ((simp only [ck, cn] at *; first | done | omega)) | (intros; omega) | (intro q hq; exact absurd hq (by omega)) | (rw [hv11]; rfl) | (intro y' a' b' oj' μ' q0 q1 q2 q3 q4 q5 q6; refine ih _ _ _ _ _ _ ?_ ?_ ?_ ?_ ?_ ?_ ?_ ?_ ?_ ?_ ?_ ?_ ?_ <;> first | assumption | omega | (rw [show (k + 1).toNat = k.toNat + 1 by omega]; assumption) | ((simp only [ck, cn] at *; first | done | omega))) | (unfold fp_sdr; rw [e4, if_neg (by omega), if_neg (by omega), if_neg (by omega), if_neg (by omega)]; first | (rw [if_pos (by (simp only [cw, l0] at *; first | done | omega)), hv5, kE]) | (rw [if_neg (by (simp only [cw, l0] at *; first | done | omega)), hv6, kE])) | (trace_state; fail)))
        | (refine (?_ : fp_fw _ _); (first | decide | assumption | omega | ((simp only [ck, cn] at *; first | done | omega)) | (intros; omega) | (intro q hq; exact absurd hq (by omega)) | (rw [hv11]; rfl) | (intro y' a' b' oj' μ' q0 q1 q2 q3 q4 q5 q6; refine ih _ _ _ _ _ _ ?_ ?_ ?_ ?_ ?_ ?_ ?_ ?_ ?_ ?_ ?_ ?_ ?_ <;> first | assumption | omega | (rw [show (k + 1).toNat = k.toNat + 1 by omega]; assumption) | ((simp only [ck, cn] at *; first | done | omega))) | (unfold fp_sdr; rw [e4, if_neg (by omega), if_neg (by omega), if_neg (by omega), if_neg (by omega)]; first | (rw [if_pos (by (simp only [cw, l0] at *; first | done | omega)), hv5, kE]) | (rw [if_neg (by (simp only [cw, l0] at *; first | done | omega)), hv6, kE])) | (trace_state; fail)))
        | ((with_reducible refine (?_ : am_Does _ 159 _ _ _)); first | ((with_reducible refine (?_ : am_Does _ 159 (Sum.inr (Sum.inr 83) :: Sum.inl (1) :: Sum.inl (0) :: _) _ _)); (have kE : k.toNat = n.toNat := (by (simp only [ck, cn] at *; first | done | omega)); refine m_come1 (fun μ3 u1 _ _ _ => ?_); have hG : gm mQ ν μ3 := md_back hv0 u1 (fun _ _ q => q))) | ((with_reducible refine (?_ : am_Does _ 159 (Sum.inr (Sum.inr 83) :: Sum.inl (1) :: Sum.inl (1) :: _) _ _)); (refine m_keep1 (fun μ1 u1 _ _ _ => ?_); have hD : MD mQ ν μ1 := md_start (gm_rf hm0) u1; have p1 : mv μ1 = (mv ν) := mv_keep (fun a b q => u1.2 a b (by omega) (by omega)))) | (have kE : k.toNat = n.toNat := (by (simp only [ck, cn] at *; first | done | omega)); refine m_come1 (fun μ3 u1 _ _ _ => ?_); have hG : gm mQ ν μ3 := md_back hv0 u1 (fun _ _ q => q)) | (refine m_keep1 (fun μ1 u1 _ _ _ => ?_); have hD : MD mQ ν μ1 := md_start (gm_rf hm0) u1; have p1 : mv μ1 = (mv ν) := mv_keep (fun a b q => u1.2 a b (by omega) (by omega))))
        | refine kk _ _ hG ?_
        | ((with_reducible refine (?_ : am_Does _ 146 _ _ _)); refine x_isRunnerT _ f0 f1 (fun y0 y1 => ?_) (fun y => ?_))
        | ((with_reducible refine (?_ : am_Does _ 144 _ _ _)); refine x_bound _ _ _ ?_ ?_ ?_ (fun _ => ?_) (fun _ => ?_) (fun _ _ => ?_))
        | ((with_reducible refine (?_ : am_Does _ 143 _ _ _)); refine x_isIn w _ _ _ rfl cw ?_ ?_ (fun _ _ => ?_) (fun _ => ?_))
        | ((with_reducible refine (?_ : am_Does _ 140 _ _ _)); refine x_no _ ?_ (fun μr fr => ?_))
        | refine kk _ _ (gm_84 (fun _ => rfl) hm0 fr) ?_
        | ((with_reducible refine (?_ : _ ∧ _)); refine And.intro (fun h => absurd h (by omega)) (fun _ => ?_))
        | ((with_reducible refine (?_ : _ ∧ _)); refine And.intro (fun _ => ?_) (fun h => absurd h (by omega)))
        | ((with_reducible refine (?_ : am_AW _ _ _ _ _ 70 _ _ _)); refine ih _ _ _ _ _ _ ?_ ?_ ?_ ?_ ?_ ?_ ?_ ?_ ?_ ?_ ?_ ?_ ?_)
        | ((with_reducible refine (?_ : am_AW _ _ _ _ _ 79 _ _ _)); refine lp79' _ _ _ _ _ _ ?_ ?_ ?_ ?_ ?_ ?_ ?_ ?_ ?_ ?_ ?_ ?_ ?_ ?_ ?_ ?_)
        | ((with_reducible refine (?_ : am_AW _ _ _ _ _ 131 _ _ _)); refine lp131 _ _ _ _ _ _ ?_ ?_ ?_ ?_ ?_ ?_ ?_ ?_ ?_ ?_ ?_ ?_ ?_ ?_)
        | refine And.intro (fun h => absurd h (by decide)) (fun _ => ?_)
        | refine And.intro (fun _ => ?_) (fun h => absurd (by decide) h)
        | refine And.intro (fun _ => ?_) (fun _ => ?_)
        | refine And.intro ?_ ?_
      all_goals (first | decide | assumption | omega | ((simp only [ck, cn] at *; first | done | omega)) | (intros; omega) | (intro q hq; exact absurd hq (by omega)) | (rw [hv11]; rfl) | (intro y' a' b' oj' μ' q0 q1 q2 q3 q4 q5 q6; refine ih _ _ _ _ _ _ ?_ ?_ ?_ ?_ ?_ ?_ ?_ ?_ ?_ ?_ ?_ ?_ ?_ <;> first | assumption | omega | (rw [show (k + 1).toNat = k.toNat + 1 by omega]; assumption) | ((simp only [ck, cn] at *; first | done | omega))) | (unfold fp_sdr; rw [e4, if_neg (by omega), if_neg (by omega), if_neg (by omega), if_neg (by omega)]; first | (rw [if_pos (by (simp only [cw, l0] at *; first | done | omega)), hv5, kE]) | (rw [if_neg (by (simp only [cw, l0] at *; first | done | omega)), hv6, kE])) | (trace_state; fail))
  have lp70' : ∀ (y a b k : Int) (oj : Option am_V) (μ : am_N) , MD mQ ν μ → fp_rq (mv μ) (mv ν) ((mv ν) 0 1 + k) (fp_sS (mv ν) z k.toNat) → mv μ 0 2 = (mv ν) 0 2 → fp_fw (999 + k) (mv μ) → 0 ≤ k → a = fp_sW (mv ν) z i k.toNat → b = fp_sGp (mv ν) z k.toNat → (0 ≤ i ∧ i < ν 83 14) → (1 ≤ n ∧ n ≤ 20) → (w = 0 ∨ w = 1) → k ≤ n → y = (fp_sZ (mv ν) z k.toNat) → am_AW l 0 (fun _ => 0) 249 Q 70 [some (.inr (.inr 83)), some (.inl i), some (.inl n), some (.inl z), some (.inl w), some (.inl 0), some (.inl y), some (.inl a), some (.inl b), some (.inl k), oj] [] μ := fun y a b k oj μ hv0 hv1 hv2 hv3 hv4 hv5 hv6 hv7 hv8 hv9 hv10 hv11 => lp70 ((n - k) + 1).toNat y a b k oj μ hv0 hv1 hv2 hv3 hv4 hv5 hv6 hv7 hv8 hv9 hv10 hv11 (by omega)
  refine am_go (ct := fun pc => Nat.beq pc 131 || Nat.beq pc 79 || Nat.beq pc 70) am_oX7_seeds 300 ?_
  conv => whnf
  repeat' first
    | (refine (?_ : am_wp _ _ _ _ _ _ _ _ _ _ _ _); conv => whnf)
    | (refine (?_ : am_sw _ _ _ _); conv => whnf)
    | refine And.intro trivial ?_
    | exact trivial
    | (refine (?_ : fp_rq _ _ _ _); (first | decide | assumption | omega | rfl | exact hD | ((simp only [ci] at *; first | done | omega)) | (rw [p1, show (mv ν) 0 1 + 0 = (mv ν) 0 1 by omega]; exact fp_rq_rf (mv ν)) | (rw [p1, show (999 : Int) + 0 = 999 by omega]; exact hw) | (rw [p1]) | (unfold fp_sdr; rw [e4, if_pos (by omega)]) | (unfold fp_sdr; rw [e4, if_neg (by omega), if_pos (by omega)]) | (unfold fp_sdr; rw [e4, if_neg (by omega), if_neg (by omega), if_pos (by omega)]) | (unfold fp_sdr; rw [e4, if_neg (by omega), if_neg (by omega), if_neg (by omega), if_pos (by omega)]) | (trace_state; fail)))
    | (refine (?_ : fp_fw _ _); (first | decide | assumption | omega | rfl | exact hD | ((simp only [ci] at *; first | done | omega)) | (rw [p1, show (mv ν) 0 1 + 0 = (mv ν) 0 1 by omega]; exact fp_rq_rf (mv ν)) | (rw [p1, show (999 : Int) + 0 = 999 by omega]; exact hw) | (rw [p1]) | (unfold fp_sdr; rw [e4, if_pos (by omega)]) | (unfold fp_sdr; rw [e4, if_neg (by omega), if_pos (by omega)]) | (unfold fp_sdr; rw [e4, if_neg (by omega), if_neg (by omega), if_pos (by omega)]) | (unfold fp_sdr; rw [e4, if_neg (by omega), if_neg (by omega), if_neg (by omega), if_pos (by omega)]) | (trace_state; fail)))
    | ((with_reducible refine (?_ : am_Does _ 146 _ _ _)); refine x_isRunnerT _ f0 f1 (fun y0 y1 => ?_) (fun y => ?_))
    | ((with_reducible refine (?_ : am_Does _ 144 _ _ _)); refine x_bound _ _ _ ?_ ?_ ?_ (fun _ => ?_) (fun _ => ?_) (fun _ _ => ?_))
    | ((with_reducible refine (?_ : am_Does _ 143 _ _ _)); refine x_isIn w _ _ _ rfl cw ?_ ?_ (fun _ _ => ?_) (fun _ => ?_))
    | ((with_reducible refine (?_ : am_Does _ 140 _ _ _)); refine x_no _ ?_ (fun μr fr => ?_))
    | ((with_reducible refine (?_ : am_Does _ 159 _ _ _)); (refine m_keep1 (fun μ1 u1 _ _ _ => ?_); have hD : MD mQ ν μ1 := md_start (gm_rf hm0) u1; have p1 : mv μ1 = (mv ν) := mv_keep (fun a b q => u1.2 a b (by omega) (by omega))))
    | refine kk _ _ (gm_84 (fun _ => rfl) hm0 fr) ?_
    | ((with_reducible refine (?_ : _ ∧ _)); refine And.intro (fun h => absurd h (by omega)) (fun _ => ?_))
    | ((with_reducible refine (?_ : _ ∧ _)); refine And.intro (fun _ => ?_) (fun h => absurd h (by omega)))
    | ((with_reducible refine (?_ : am_AW _ _ _ _ _ 70 _ _ _)); refine lp70' _ _ _ _ _ _ ?_ ?_ ?_ ?_ ?_ ?_ ?_ ?_ ?_ ?_ ?_ ?_)
    | ((with_reducible refine (?_ : am_AW _ _ _ _ _ 79 _ _ _)); refine lp79' _ _ _ _ _ _ ?_ ?_ ?_ ?_ ?_ ?_ ?_ ?_ ?_ ?_ ?_ ?_ ?_ ?_ ?_ ?_)
    | ((with_reducible refine (?_ : am_AW _ _ _ _ _ 131 _ _ _)); refine lp131 _ _ _ _ _ _ ?_ ?_ ?_ ?_ ?_ ?_ ?_ ?_ ?_ ?_ ?_ ?_ ?_ ?_)
    | refine And.intro (fun h => absurd h (by decide)) (fun _ => ?_)
    | refine And.intro (fun _ => ?_) (fun h => absurd (by decide) h)
    | refine And.intro (fun _ => ?_) (fun _ => ?_)
    | refine And.intro ?_ ?_
  all_goals (first | decide | assumption | omega | rfl | exact hD | ((simp only [ci] at *; first | done | omega)) | (rw [p1, show (mv ν) 0 1 + 0 = (mv ν) 0 1 by omega]; exact fp_rq_rf (mv ν)) | (rw [p1, show (999 : Int) + 0 = 999 by omega]; exact hw) | (rw [p1]) | (unfold fp_sdr; rw [e4, if_pos (by omega)]) | (unfold fp_sdr; rw [e4, if_neg (by omega), if_pos (by omega)]) | (unfold fp_sdr; rw [e4, if_neg (by omega), if_neg (by omega), if_pos (by omega)]) | (unfold fp_sdr; rw [e4, if_neg (by omega), if_neg (by omega), if_neg (by omega), if_pos (by omega)]) | (trace_state; fail))
