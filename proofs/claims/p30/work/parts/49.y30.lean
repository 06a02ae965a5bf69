/-! a HABIT -/
/-- whom a clause means: i, of the first f, the last g -/
abbrev fp_ms (w i f g : Int) : Prop := (w = 0 ∧ i = f) ∨ (w = 1 ∧ i = g) ∨ (w = 2 ∧ i ≠ f ∧ i ≠ g) ∨ w = 3
/-- one clause, for those below i -/
def fp_cl (w y f g i : Int) (s : Nat → Int) : Nat → Int := fun b => if (b : Int) < i ∧ fp_ms w (b : Int) f g then am_hd (s b + y) else s b
def fp_hb (H Y : Nat → Int) (f g n : Int) : Nat → (Nat → Int) → Nat → Int
  | 0, s => s
  | c + 1, s => fp_cl (H c) (Y c) f g n (fp_hb H Y f g n c s)
theorem fp_cl_0 (w y f g : Int) (s : Nat → Int) : fp_cl w y f g 0 s = s := by
  funext b
  exact if_neg (fun z => absurd z.1 (by omega))
theorem fp_cl_y {w y f g i : Int} {s : Nat → Int} (h0 : 0 ≤ i) (hm : fp_ms w i f g) : am_pt (fp_cl w y f g i s) i.toNat (am_hd (fp_cl w y f g i s i.toNat + y)) = fp_cl w y f g (i + 1) s := by
  funext b
  have ei : ((i.toNat : Nat) : Int) = i := Int.toNat_of_nonneg h0
  unfold am_pt
  by_cases d : b = i.toNat
  · have e1 : fp_cl w y f g i s i.toNat = s i.toNat := if_neg (fun z => absurd z.1 (by omega))
    have e2 : fp_cl w y f g (i + 1) s i.toNat = am_hd (s i.toNat + y) := if_pos ⟨by omega, by rw [ei]; exact hm⟩
    rw [if_pos d, d, e1, e2]
  · rw [if_neg d]
    unfold fp_cl
    by_cases e : (b : Int) < i ∧ fp_ms w (b : Int) f g
    · rw [if_pos e, if_pos ⟨by omega, e.2⟩]
    · rw [if_neg e, if_neg (fun z => e ⟨by omega, z.2⟩)]
theorem fp_cl_n {w y f g i : Int} {s : Nat → Int} (h0 : 0 ≤ i) (hm : ¬ fp_ms w i f g) : fp_cl w y f g i s = fp_cl w y f g (i + 1) s := by
  funext b
  unfold fp_cl
  by_cases e : (b : Int) < i ∧ fp_ms w (b : Int) f g
  · rw [if_pos e, if_pos ⟨by omega, e.2⟩]
  · rw [if_neg e, if_neg (fun z => ?_)]
    by_cases d : (b : Int) = i
    · exact hm (d ▸ z.2)
    · exact e ⟨by omega, z.2⟩
theorem fp_cl_b {w y f g i : Int} {s : Nat → Int} (h : ∀ b : Nat, b < 4 → 0 ≤ s b ∧ s b ≤ 99) : ∀ b : Nat, b < 4 → 0 ≤ fp_cl w y f g i s b ∧ fp_cl w y f g i s b ≤ 99 := fun b hb => by
  unfold fp_cl
  split
  · exact am_hd_b _
  · exact h b hb
theorem fp_hb_b {H Y : Nat → Int} {f g n : Int} {s : Nat → Int} (h : ∀ b : Nat, b < 4 → 0 ≤ s b ∧ s b ≤ 99) : ∀ c : Nat, ∀ b : Nat, b < 4 → 0 ≤ fp_hb H Y f g n c s b ∧ fp_hb H Y f g n c s b ≤ 99 := by
  intro c
  induction c with
  | zero => exact h
  | succ c ih => exact fp_cl_b ih
theorem fp_hb_c {H Y : Nat → Int} {f g n : Int} {s u : Nat → Int} (h : ∀ b : Nat, b < 4 → s b = u b) : ∀ c : Nat, ∀ b : Nat, b < 4 → fp_hb H Y f g n c s b = fp_hb H Y f g n c u b := by
  intro c
  induction c with
  | zero => exact h
  | succ c ih =>
    intro b hb
    simp only [fp_hb, fp_cl]
    rw [ih b hb]
/-- one place further in the table of clauses and RUNNERS -/
theorem fp_dm {t n : Int} (t0 : 0 ≤ t) (n1 : 1 ≤ n) (n4 : n ≤ 4) : (0 ≤ t % n ∧ t % n < n) ∧ 0 ≤ t / n ∧ ((t % n + 1 < n ∧ (t + 1) / n = t / n ∧ (t + 1) % n = t % n + 1) ∨ (t % n + 1 = n ∧ (t + 1) / n = t / n + 1 ∧ (t + 1) % n = 0)) := by
  rcases (show n = 1 ∨ n = 2 ∨ n = 3 ∨ n = 4 by omega) with rfl | rfl | rfl | rfl <;> omega
theorem fp_dl {t n m : Int} (t0 : 0 ≤ t) (n1 : 1 ≤ n) (n4 : n ≤ 4) (h : t < m * n) : t / n < m := by
  rcases (show n = 1 ∨ n = 2 ∨ n = 3 ∨ n = 4 by omega) with rfl | rfl | rfl | rfl <;> omega
theorem fp_de {n m : Int} (n1 : 1 ≤ n) (n4 : n ≤ 4) : m * n / n = m ∧ m * n % n = 0 := by
  rcases (show n = 1 ∨ n = 2 ∨ n = 3 ∨ n = 4 by omega) with rfl | rfl | rfl | rfl <;> omega
theorem fp_mn_b {n m : Int} (m0 : 0 ≤ m) (m4 : m ≤ 4) (n1 : 1 ≤ n) (n4 : n ≤ 4) : 0 ≤ m * n ∧ m * n ≤ 16 := by
  rcases (show n = 1 ∨ n = 2 ∨ n = 3 ∨ n = 4 by omega) with rfl | rfl | rfl | rfl <;> omega
theorem fp_cl_d {H Y : Nat → Int} {f g t n : Int} {s : Nat → Int} (t0 : 0 ≤ t) (n1 : 1 ≤ n) (n4 : n ≤ 4) : fp_cl (H (t / n).toNat) (Y (t / n).toNat) f g (t % n + 1) (fp_hb H Y f g n (t / n).toNat s) = fp_cl (H ((t + 1) / n).toNat) (Y ((t + 1) / n).toNat) f g ((t + 1) % n) (fp_hb H Y f g n ((t + 1) / n).toNat s) := by
  obtain ⟨-, d0, ⟨h1, h2, h3⟩ | ⟨h1, h2, h3⟩⟩ := fp_dm t0 n1 n4
  · rw [h2, h3]
  · rw [h2, h3, h1, fp_cl_0, show (t / n + 1).toNat = (t / n).toNat + 1 by omega]
    rfl
/-- a field with another WEEK, other STARTS -/
def fp_wks (F : am_N) (w : Int) (s : Nat → Int) : am_N := fun a b => if a = 5 then s b else if a = 0 ∧ b = 1 then w else F a b
def fp_hS (F : am_N) (H Y : Nat → Int) (m : Nat) : Nat → Nat → Int
  | 0 => F 5
  | k + 1 => fp_hb H Y (fp_f (fp_wks F (F 0 1 + (k : Int)) (fp_hS F H Y m k))) (fp_g (fp_wks F (F 0 1 + (k : Int)) (fp_hS F H Y m k))) (F 0 4) m (fp_hS F H Y m k)
def fp_hQ (F : am_N) (H Y : Nat → Int) (m : Nat) : Nat → Int
  | 0 => 0
  | k + 1 => fp_hQ F H Y m k + fp_gp (fp_wks F (F 0 1 + (k : Int)) (fp_hS F H Y m k))
theorem fp_hS_b {F : am_N} {H Y : Nat → Int} {m : Nat} (h : ∀ b : Nat, b < 4 → 0 ≤ F 5 b ∧ F 5 b ≤ 99) : ∀ k : Nat, ∀ b : Nat, b < 4 → 0 ≤ fp_hS F H Y m k b ∧ fp_hS F H Y m k b ≤ 99 := by
  intro k
  induction k with
  | zero => exact h
  | succ k ih => exact fp_hb_b ih m
theorem fw_wks {F : am_N} {W w : Int} {s : Nat → Int} (h : fp_fw 999 F) (w0 : 0 ≤ w) (w1 : w ≤ W) (hs : ∀ b : Nat, b < 4 → 0 ≤ s b ∧ s b ≤ 99) : fp_fw W (fp_wks F w s) := by
  obtain ⟨h0, h1, h2, h3, h4, h5, h6⟩ := h
  have e : ∀ a b : Nat, a ≠ 5 → ¬(a = 0 ∧ b = 1) → fp_wks F w s a b = F a b := fun a b q1 q2 => by unfold fp_wks; rw [if_neg q1, if_neg q2]
  unfold fp_fw
  rw [e 0 0 (by decide) (by decide), e 0 2 (by decide) (by decide), e 0 3 (by decide) (by decide), e 0 4 (by decide) (by decide), show fp_wks F w s 0 1 = w from rfl]
  refine ⟨h0, ⟨w0, w1⟩, h2, h3, h4, fun i hi => hs i hi, fun i hi => ?_⟩
  rw [e 1 i (by decide) (fun z => absurd z.1 (by decide)), e 2 i (by decide) (fun z => absurd z.1 (by decide)), e 3 i (by decide) (fun z => absurd z.1 (by decide)), e 4 i (by decide) (fun z => absurd z.1 (by decide))]
  exact h6 i hi
theorem fp_hQ_b {F : am_N} {H Y : Nat → Int} {m : Nat} (h : fp_fw 999 F) (h2 : 2 ≤ F 0 4) : ∀ k : Nat, k ≤ 60 → -(60000 * (k : Int)) ≤ fp_hQ F H Y m k ∧ fp_hQ F H Y m k ≤ 60000 * (k : Int) := by
  intro k
  induction k with
  | zero => intro _; exact ⟨(by first | exact Int.le_refl 0 | (show (0 : Int) ≤ _; decide) | (show _ ≤ (0 : Int); decide)), (by first | exact Int.le_refl 0 | (show (0 : Int) ≤ _; decide) | (show _ ≤ (0 : Int); decide))⟩
  | succ k ih =>
    intro hk
    have q := ih (by omega)
    have w := h.2.1
    have p := fp_gp_b (W := 1059) (F := fp_wks F (F 0 1 + (k : Int)) (fp_hS F H Y m k)) (fw_wks h (by omega) (by omega) (fp_hS_b h.2.2.2.2.2.1 k)) (by decide) h2
    simp only [fp_hQ]
    omega
/-- a picture that shows this WEEK, these STARTS (RULE and WINS may be others) -/
def fp_rq (G F : am_N) (w : Int) (s : Nat → Int) : Prop := (∀ b : Nat, b < 5 → b ≠ 1 → b ≠ 2 → G 0 b = F 0 b) ∧ G 0 1 = w ∧ (∀ a b : Nat, 0 < a → a < 5 → b < 4 → G a b = F a b) ∧ ∀ b : Nat, b < 4 → G 5 b = s b
theorem fp_rq_t {G F : am_N} {w : Int} {s : Nat → Int} (h : fp_rq G F w s) {i : Nat} (hi : i < 4) : fp_tf G i = fp_tf (fp_wks F w s) i := by
  obtain ⟨h0, h1, h2, h3⟩ := h
  unfold fp_tf am_TC
  rw [h0 0 (by decide) (by decide) (by decide), h1, h2 (0 + 1) i (by decide) (by decide) hi, h2 (0 + 2) i (by decide) (by decide) hi, h2 (0 + 3) i (by decide) (by decide) hi, h3 i hi]
  rfl
theorem fp_rq_o {G F : am_N} {w : Int} {s : Nat → Int} (h : fp_rq G F w s) (h4 : F 0 4 ≤ 4) (p : Int) : fp_od (fp_tf G) (G 0 4) p = fp_od (fp_tf (fp_wks F w s)) (F 0 4) p := by
  rw [h.1 4 (by decide) (by decide) (by decide)]
  exact fp_od_t h4 (fun i hi => fp_rq_t h hi)
theorem fp_rq_f {G F : am_N} {w : Int} {s : Nat → Int} (h : fp_rq G F w s) (h4 : F 0 4 ≤ 4) : fp_f G = fp_f (fp_wks F w s) := fp_rq_o h h4 0
theorem fp_rq_g {G F : am_N} {w : Int} {s : Nat → Int} (h : fp_rq G F w s) (h4 : F 0 4 ≤ 4) : fp_g G = fp_g (fp_wks F w s) := by
  have e := h.1 4 (by decide) (by decide) (by decide)
  unfold fp_g
  rw [fp_rq_o h h4, e]
  rfl
theorem fp_rq_p {G F : am_N} {w : Int} {s : Nat → Int} (h : fp_rq G F w s) (h4 : F 0 4 ≤ 4) : fp_gp G = fp_gp (fp_wks F w s) := by
  have b0 := fp_f_b (fp_wks F w s)
  have b1 := fp_od_b (fp_tf (fp_wks F w s)) (F 0 4) 1
  unfold fp_gp
  rw [fp_rq_o h h4, fp_rq_f h h4, fp_rq_t h (by omega), fp_rq_t h (by omega)]
  rfl
theorem fp_rq_s {G G2 F : am_N} {w w2 : Int} {s H Y : Nat → Int} {m : Nat} (h : fp_rq G F w s) (h4 : F 0 4 ≤ 4) (hw : w2 = w + 1) (e0 : ∀ b : Nat, b < 5 → b ≠ 1 → G2 0 b = G 0 b) (e1 : G2 0 1 = G 0 1 + 1) (ea : ∀ a b : Nat, 0 < a → a < 5 → b < 4 → G2 a b = G a b) (e5 : ∀ b : Nat, b < 4 → G2 5 b = fp_hb H Y (fp_f G) (fp_g G) (G 0 4) m (G 5) b) : fp_rq G2 F w2 (fp_hb H Y (fp_f (fp_wks F w s)) (fp_g (fp_wks F w s)) (F 0 4) m s) := by
  refine ⟨fun b q1 q2 q3 => (e0 b q1 q2).trans (h.1 b q1 q2 q3), by rw [e1, h.2.1, hw], fun a b q1 q2 q3 => (ea a b q1 q2 q3).trans (h.2.2.1 a b q1 q2 q3), fun b hb => ?_⟩
  rw [e5 b hb, fp_rq_f h h4, fp_rq_g h h4, h.1 4 (by decide) (by decide) (by decide)]
  exact fp_hb_c h.2.2.2 m b hb
theorem fw_s5 {W V : Int} {G G2 : am_N} (h : fp_fw W G) (hV : W + 1 ≤ V) (e0 : ∀ b : Nat, b < 5 → b ≠ 1 → G2 0 b = G 0 b) (e1 : G2 0 1 = G 0 1 + 1) (ea : ∀ a b : Nat, 0 < a → a < 5 → b < 4 → G2 a b = G a b) (b5 : ∀ b : Nat, b < 4 → 0 ≤ G2 5 b ∧ G2 5 b ≤ 99) : fp_fw V G2 := by
  obtain ⟨h0, h1, h2, h3, h4, h5, h6⟩ := h
  unfold fp_fw
  rw [e0 0 (by decide) (by decide), e0 2 (by decide) (by decide), e0 3 (by decide) (by decide), e0 4 (by decide) (by decide), e1]
  refine ⟨h0, by omega, h2, h3, h4, b5, fun i hi => ?_⟩
  rw [ea 1 i (by decide) (by decide) (by omega), ea 2 i (by decide) (by decide) (by omega), ea 3 i (by decide) (by decide) (by omega), ea 4 i (by decide) (by decide) (by omega)]
  exact h6 i hi
/-- a run where RULE is 0 -/
theorem fp_rn_c (G : am_N) : (∀ b : Nat, b < 5 → b ≠ 1 → fp_rn G 0 b = G 0 b) ∧ fp_rn G 0 1 = G 0 1 + 1 ∧ (∀ a b : Nat, 0 < a → a < 5 → b < 4 → fp_rn G a b = G a b) ∧ (G 0 2 = 0 → ∀ b : Nat, b < 4 → fp_rn G 5 b = G 5 b) := by
  refine ⟨fun b q1 q2 => ?_, rfl, fun a b q1 q2 q3 => ?_, fun h b hb => ?_⟩
  · unfold fp_rn
    rw [fp_ct_i (fp_in_0 q1)]
    unfold fp_rr
    rw [if_neg (by decide), if_neg (by decide), if_neg (fun z => q2 z.2)]
  · unfold fp_rn
    rw [fp_ct_i (fp_in_a q1 (by omega) q3)]
    unfold fp_rr
    rw [if_neg (by omega), if_neg (by omega), if_neg (by omega)]
  · unfold fp_rn
    rw [fp_ct_i (fp_in_a (by decide) (by decide) hb)]
    unfold fp_rr
    rw [if_neg (by decide), if_pos rfl, h]
    unfold am_mn
    rw [am_m3_n (by decide)]
    rfl
theorem fp_rq_ru (F : am_N) (r : Int) : fp_rq (fp_ru2 F r) F (F 0 1) (F 5) := by
  unfold fp_ru2
  refine ⟨fun b q1 q2 q3 => ?_, rfl, fun a b q1 q2 q3 => ?_, fun b hb => ?_⟩
  · rw [fp_ct_i (fp_in_0 q1)]; exact am_upM q3
  · rw [fp_ct_i (fp_in_a q1 (by omega) q3)]; exact am_upN (by omega)
  · rw [fp_ct_i (fp_in_a (by decide) (by decide) hb)]; exact am_upN (by decide)
theorem fp_rq_rf (F : am_N) : fp_rq F F (F 0 1) (F 5) := ⟨fun _ _ _ _ => rfl, rfl, fun _ _ _ _ _ => rfl, fun _ _ => rfl⟩
theorem fp_ru2_id (X : am_N) : fp_ru2 (fp_ct X) (fp_ct X 0 2) = fp_ct X := by
  refine fp_ct_e (fun b hb => ?_) (fun a b q1 q2 hb => ?_)
  · by_cases d : b = 2
    · subst d
      exact if_pos ⟨rfl, rfl⟩
    · rw [am_upM d, fp_ct_i (fp_in_0 hb)]
  · rw [am_upN (by omega), fp_ct_i (fp_in_a q1 q2 hb)]
def fp_tdr (F : am_N) (H Y : Nat → Int) (m n w : Int) : Int := if n < 0 then -4 else if 60 < n then -6 else if ¬(w = 0 ∨ w = 1) then -2 else if F 0 4 < 2 then -3 else if w = 0 then fp_hQ F H Y m.toNat n.toNat else if fp_hQ F H Y m.toNat n.toNat < fp_gs F n.toNat then 1 else 0
theorem x_at_53 {l : Launch} {ν : am_N} {Q : Option am_V → am_N → Prop} (i : Int) (i0 : 0 ≤ i) (i1 : i < ν 53 1) (n1 : ν 53 1 ≤ 4) (k : Q (some (.inl (ν 54 i.toNat))) ν) : am_Does l 43 [.inr (.inr 53), .inl i] ν Q := by
  refine am_Does_of (Nat.le_of_ble_eq_true rfl) (Nat.le_of_ble_eq_true rfl) (Nat.le_of_ble_eq_true rfl) ?_
  have l0 : am_c 0 = 0 := rfl
  have l1 : am_c 1 = 1 := rfl
  have l2 : am_c 2 = 2 := rfl
  have l3 : am_c 3 = 3 := rfl
  have l4 : am_c 4 = 4 := rfl
  have l60 : am_c 60 = 60 := rfl
  have ci : am_c i = i := am_cR (by omega) (by omega)
  have cn : am_c (ν 53 1) = ν 53 1 := am_cR (by omega) (by omega)
  have ei : (am_c i).toNat = i.toNat := by rw [ci]
  refine am_go (ct := fun _ => false) am_oX3_at 300 ?_
  conv => whnf
  repeat' first
    | (refine (?_ : am_wp _ _ _ _ _ _ _ _ _ _ _ _); conv => whnf)
    | (refine (?_ : am_sw _ _ _ _); conv => whnf)
    | refine And.intro trivial ?_
    | exact trivial
    | refine am_qe k ?_
    | refine And.intro (fun z => absurd z (by rw [ci]; omega)) (fun _ => ?_)
    | refine And.intro (fun z => absurd z (by rw [ci, cn]; omega)) (fun _ => ?_)
    | refine And.intro (fun h => absurd h (by decide)) (fun _ => ?_)
    | refine And.intro (fun _ => ?_) (fun h => absurd (by decide) h)
    | refine And.intro (fun _ => ?_) (fun _ => ?_)
    | refine And.intro ?_ ?_
  all_goals (first | decide | omega | (rw [ci]; omega) | (rw [ei]) | (trace_state; fail))
theorem x_at_55 {l : Launch} {ν : am_N} {Q : Option am_V → am_N → Prop} (i : Int) (i0 : 0 ≤ i) (i1 : i < ν 55 1) (n1 : ν 55 1 ≤ 4) (k : Q (some (.inl (ν 56 i.toNat))) ν) : am_Does l 43 [.inr (.inr 55), .inl i] ν Q := by
  refine am_Does_of (Nat.le_of_ble_eq_true rfl) (Nat.le_of_ble_eq_true rfl) (Nat.le_of_ble_eq_true rfl) ?_
  have l0 : am_c 0 = 0 := rfl
  have l1 : am_c 1 = 1 := rfl
  have l2 : am_c 2 = 2 := rfl
  have l3 : am_c 3 = 3 := rfl
  have l4 : am_c 4 = 4 := rfl
  have l60 : am_c 60 = 60 := rfl
  have ci : am_c i = i := am_cR (by omega) (by omega)
  have cn : am_c (ν 55 1) = ν 55 1 := am_cR (by omega) (by omega)
  have ei : (am_c i).toNat = i.toNat := by rw [ci]
  refine am_go (ct := fun _ => false) am_oX3_at 300 ?_
  conv => whnf
  repeat' first
    | (refine (?_ : am_wp _ _ _ _ _ _ _ _ _ _ _ _); conv => whnf)
    | (refine (?_ : am_sw _ _ _ _); conv => whnf)
    | refine And.intro trivial ?_
    | exact trivial
    | refine am_qe k ?_
    | refine And.intro (fun z => absurd z (by rw [ci]; omega)) (fun _ => ?_)
    | refine And.intro (fun z => absurd z (by rw [ci, cn]; omega)) (fun _ => ?_)
    | refine And.intro (fun h => absurd h (by decide)) (fun _ => ?_)
    | refine And.intro (fun _ => ?_) (fun h => absurd (by decide) h)
    | refine And.intro (fun _ => ?_) (fun _ => ?_)
    | refine And.intro ?_ ?_
  all_goals (first | decide | omega | (rw [ci]; omega) | (rw [ei]) | (trace_state; fail))
theorem x_means {l : Launch} {ν : am_N} {Q : Option am_V → am_N → Prop} (w x y : Int) (w0 : 0 ≤ w) (w3 : w ≤ 3) (hx : x = 0 ∨ x = 1) (hy : y = 0 ∨ y = 1) (k : ∀ v : Int, (v = 1 ∧ ((w = 0 ∧ x = 1) ∨ (w = 1 ∧ y = 1) ∨ (w = 2 ∧ x = 0 ∧ y = 0) ∨ w = 3)) ∨ (v = 0 ∧ ¬ ((w = 0 ∧ x = 1) ∨ (w = 1 ∧ y = 1) ∨ (w = 2 ∧ x = 0 ∧ y = 0) ∨ w = 3)) → Q (some (.inl v)) ν) : am_Does l 20 [.inl w, .inl x, .inl y] ν Q := by
  refine am_Does_of (Nat.le_of_ble_eq_true rfl) (Nat.le_of_ble_eq_true rfl) (Nat.le_of_ble_eq_true rfl) ?_
  have l0 : am_c 0 = 0 := rfl
  have l1 : am_c 1 = 1 := rfl
  have l2 : am_c 2 = 2 := rfl
  have l3 : am_c 3 = 3 := rfl
  have l4 : am_c 4 = 4 := rfl
  have l60 : am_c 60 = 60 := rfl
  have cw : am_c w = w := am_cR (by omega) (by omega)
  have cx : am_c x = x := am_cR (by omega) (by omega)
  have cy : am_c y = y := am_cR (by omega) (by omega)
  refine am_go (ct := fun _ => false) am_oX1_means 300 ?_
  conv => whnf
  repeat' first
    | (refine (?_ : am_wp _ _ _ _ _ _ _ _ _ _ _ _); conv => whnf)
    | (refine (?_ : am_sw _ _ _ _); conv => whnf)
    | refine And.intro trivial ?_
    | exact trivial
    | refine k _ ?_
    | refine And.intro (fun h => absurd h (by decide)) (fun _ => ?_)
    | refine And.intro (fun _ => ?_) (fun h => absurd (by decide) h)
    | refine And.intro (fun _ => ?_) (fun _ => ?_)
    | refine And.intro ?_ ?_
  all_goals (first | decide | omega | ((simp only [cw, cx, cy, l0, l1, l2] at *; first | done | omega)) | (trace_state; fail))
theorem s_hmend {l : Launch} {ν : am_N} {Q : Option am_V → am_N → Prop} (f g : Int) (H Y : Nat → Int) (n0 : 1 ≤ ν 8 4) (n4 : ν 8 4 ≤ 4) (en : ν 29 0 = ν 8 4) (hF : ν 34 0 = f) (hG : ν 34 (ν 29 0 - 1).toNat = g) (f0 : 0 ≤ f) (f3 : f ≤ 3) (g0 : 0 ≤ g) (g3 : g ≤ 3) (m0 : 0 ≤ ν 53 1) (m4 : ν 53 1 ≤ 4) (em : ν 55 1 = ν 53 1) (eH : ∀ b : Nat, (b : Int) < ν 53 1 → ν 54 b = H b) (eY : ∀ b : Nat, (b : Int) < ν 53 1 → ν 56 b = Y b) (hH : ∀ b : Nat, (b : Int) < ν 53 1 → 0 ≤ H b ∧ H b ≤ 3) (hY : ∀ b : Nat, (b : Int) < ν 53 1 → -9 ≤ Y b ∧ Y b ≤ 9) (hs : ∀ b : Nat, b < 4 → 0 ≤ ν 13 b ∧ ν 13 b ≤ 99) (k : ∀ μ' : am_N, (∀ a b, a ≠ 13 → μ' a b = ν a b) → μ' 13 = fp_hb H Y f g (ν 8 4) (ν 53 1).toNat (ν 13) → Q none μ') : am_Does l 19 [.inr (.inr 52), .inr (.inr 8), .inr (.inr 29)] ν Q := by
  refine am_Does_of (Nat.le_of_ble_eq_true rfl) (Nat.le_of_ble_eq_true rfl) (Nat.le_of_ble_eq_true rfl) ?_
  have l0 : am_c 0 = 0 := rfl
  have l1 : am_c 1 = 1 := rfl
  have l2 : am_c 2 = 2 := rfl
  have l3 : am_c 3 = 3 := rfl
  have l4 : am_c 4 = 4 := rfl
  have l60 : am_c 60 = 60 := rfl
  have cf : am_c f = f := am_cR (by omega) (by omega)
  have cg : am_c g = g := am_cR (by omega) (by omega)
  have cn : am_c (ν 8 4) = ν 8 4 := am_cR (by omega) (by omega)
  have cm : am_c (ν 53 1) = ν 53 1 := am_cR (by omega) (by omega)
  have lp16 : ∀ (m : Nat) (c i : Int) (μ : am_N) , (∀ a b, a ≠ 13 → μ a b = ν a b) → 0 ≤ c → c < ν 53 1 → 0 ≤ i → i ≤ ν 8 4 → μ 13 = fp_cl (H c.toNat) (Y c.toNat) f g i (fp_hb H Y f g (ν 8 4) c.toNat (ν 13)) → (∀ (o4 : Option am_V) (μ : am_N), (∀ a b, a ≠ 13 → μ a b = ν a b) → μ 13 = fp_hb H Y f g (ν 8 4) (c + 1).toNat (ν 13) → am_AW l 0 (fun _ => 0) 19 Q 2 [some (.inr (.inr 52)), some (.inr (.inr 8)), some (.inr (.inr 29)), some (.inl (c + 1)), o4] [] μ) → ν 8 4 - i < (m : Int) → am_AW l 0 (fun _ => 0) 19 Q 16 [some (.inr (.inr 52)), some (.inr (.inr 8)), some (.inr (.inr 29)), some (.inl c), some (.inl i)] [] μ := by
    intro m
    induction m with
    | zero =>
      intro c i μ hv0 hv1 hv2 hv3 hv4 hv5 hv6 hm
      exfalso
      omega
    | succ m ih =>
      intro c i μ hv0 hv1 hv2 hv3 hv4 hv5 hv6 hm
      have ci : am_c i = i := am_cR (by omega) (by omega)
      have e8 : μ 8 4 = ν 8 4 := hv0 8 4 (by decide)
      have e29 : μ 29 0 = ν 29 0 := hv0 29 0 (by decide)
      have e53 : μ 53 1 = ν 53 1 := hv0 53 1 (by decide)
      have e55 : μ 55 1 = ν 55 1 := hv0 55 1 (by decide)
      have hc := hH c.toNat (by omega)
      have hy := hY c.toNat (by omega)
      have b3 := fp_cl_b (w := H c.toNat) (y := Y c.toNat) (f := f) (g := g) (i := i) (fp_hb_b (H := H) (Y := Y) (f := f) (g := g) (n := ν 8 4) hs c.toNat)
      have bi := fun q : i < 4 => b3 i.toNat (by omega)
      refine am_go (ct := fun pc => Nat.beq pc 16 || Nat.beq pc 2) am_oX1_mend 300 ?_
      conv => whnf
      repeat' first
        | (refine (?_ : am_wp _ _ _ _ _ _ _ _ _ _ _ _); conv => whnf)
        | (refine (?_ : am_sw _ _ _ _); conv => whnf)
        | refine And.intro trivial ?_
        | exact trivial
        | (refine x_at_53 c hv1 (by rw [e53]; exact hv2) (by rw [e53]; omega) ?_; rw [hv0 54 _ (by decide), eH c.toNat (by omega)])
        | (refine x_first_29_8 f ((hv0 34 0 (by decide)).trans hF) (by rw [e29, en]; omega) (by rw [e29, en]; omega) ?_)
        | (refine x_last_29_8 g ((hv0 34 _ (by decide)).trans (by rw [e29]; exact hG)) (by rw [e29, en]; omega) (by rw [e29, en]; omega) ?_)
        | (refine x_means (H c.toNat) _ _ hc.1 hc.2 (by first | exact Or.inl rfl | exact Or.inr rfl) (by first | exact Or.inl rfl | exact Or.inr rfl) (fun v hv => ?_); have cv : am_c v = v := (by rcases hv with h | h <;> rw [h.1] <;> rfl); have i4 : i < 4 := (by (simp only [ci, e8, cn] at *; first | done | omega)); have bi := bi i4)
        | (refine x_at_55 c hv1 (by rw [e55, em]; exact hv2) (by rw [e55, em]; omega) ?_; rw [hv0 56 _ (by decide), eY c.toNat (by omega)])
        | (refine x_more_8 i (Y c.toNat) hv3 (by rw [e8]; (simp only [ci, e8, cn] at *; first | done | omega)) (by rw [e8]; exact n4) (by rw [hv5]; exact bi.1) (by rw [hv5]; exact bi.2) (by omega) (by omega) ?_)
        | (refine hv6 _ _ ?_ ?_)
        | refine ih _ _ _ ?_ ?_ ?_ ?_ ?_ ?_ ?_ ?_
        | refine And.intro (fun h => absurd h (by decide)) (fun _ => ?_)
        | refine And.intro (fun _ => ?_) (fun h => absurd (by decide) h)
        | refine And.intro (fun _ => ?_) (fun _ => ?_)
        | refine And.intro ?_ ?_
      all_goals (first | decide | assumption | omega | (intro a b h; rw [am_upN h]; exact hv0 a b h) | (rw [am_pt_up, hv5]; exact fp_cl_y hv3 (by unfold fp_ms; omega)) | (rw [hv5]; exact fp_cl_n hv3 (by unfold fp_ms; omega)) | (rw [hv5, show (c + 1).toNat = c.toNat + 1 by omega, show i = ν 8 4 by (simp only [ci, e8, cn] at *; first | done | omega)]; rfl) | ((simp only [ci, e8, cn] at *; first | done | omega)) | (trace_state; fail))
  have lp16' : ∀ (c i : Int) (μ : am_N) , (∀ a b, a ≠ 13 → μ a b = ν a b) → 0 ≤ c → c < ν 53 1 → 0 ≤ i → i ≤ ν 8 4 → μ 13 = fp_cl (H c.toNat) (Y c.toNat) f g i (fp_hb H Y f g (ν 8 4) c.toNat (ν 13)) → (∀ (o4 : Option am_V) (μ : am_N), (∀ a b, a ≠ 13 → μ a b = ν a b) → μ 13 = fp_hb H Y f g (ν 8 4) (c + 1).toNat (ν 13) → am_AW l 0 (fun _ => 0) 19 Q 2 [some (.inr (.inr 52)), some (.inr (.inr 8)), some (.inr (.inr 29)), some (.inl (c + 1)), o4] [] μ) → am_AW l 0 (fun _ => 0) 19 Q 16 [some (.inr (.inr 52)), some (.inr (.inr 8)), some (.inr (.inr 29)), some (.inl c), some (.inl i)] [] μ := fun c i μ hv0 hv1 hv2 hv3 hv4 hv5 hv6 => lp16 ((ν 8 4 - i) + 1).toNat c i μ hv0 hv1 hv2 hv3 hv4 hv5 hv6 (by omega)
  have lp2 : ∀ (m : Nat) (c : Int) (o4 : Option am_V) (μ : am_N) , (∀ a b, a ≠ 13 → μ a b = ν a b) → 0 ≤ c → c ≤ ν 53 1 → μ 13 = fp_hb H Y f g (ν 8 4) c.toNat (ν 13) → ν 53 1 - c < (m : Int) → am_AW l 0 (fun _ => 0) 19 Q 2 [some (.inr (.inr 52)), some (.inr (.inr 8)), some (.inr (.inr 29)), some (.inl c), o4] [] μ := by
    intro m
    induction m with
    | zero =>
      intro c o4 μ hv0 hv1 hv2 hv3 hm
      exfalso
      omega
    | succ m ih =>
      intro c o4 μ hv0 hv1 hv2 hv3 hm
      have cc : am_c c = c := am_cR (by omega) (by omega)
      have e53 : μ 53 1 = ν 53 1 := hv0 53 1 (by decide)
      refine am_go (ct := fun pc => Nat.beq pc 16 || Nat.beq pc 2) am_oX1_mend 300 ?_
      conv => whnf
      repeat' first
        | (refine (?_ : am_wp _ _ _ _ _ _ _ _ _ _ _ _); conv => whnf)
        | (refine (?_ : am_sw _ _ _ _); conv => whnf)
        | refine And.intro trivial ?_
        | exact trivial
        | refine k _ hv0 ?_
        | refine ih _ _ _ ?_ ?_ ?_ ?_ ?_
        | refine lp16' _ _ _ ?_ ?_ ?_ ?_ ?_ ?_ ?_
        | refine And.intro (fun h => absurd h (by decide)) (fun _ => ?_)
        | refine And.intro (fun _ => ?_) (fun h => absurd (by decide) h)
        | refine And.intro (fun _ => ?_) (fun _ => ?_)
        | refine And.intro ?_ ?_
      all_goals (first | decide | assumption | omega | ((simp only [cc, e53, cm] at *; first | done | omega)) | (rw [fp_cl_0]; exact hv3) | (rw [hv3, show c.toNat = (ν 53 1).toNat by (simp only [cc, e53, cm] at *; first | done | omega)]) | (intros; refine ih _ _ _ ?_ ?_ ?_ ?_ ?_ <;> first | assumption | omega | ((simp only [cc, e53, cm] at *; first | done | omega))) | (trace_state; fail))
  have lp2' : ∀ (c : Int) (o4 : Option am_V) (μ : am_N) , (∀ a b, a ≠ 13 → μ a b = ν a b) → 0 ≤ c → c ≤ ν 53 1 → μ 13 = fp_hb H Y f g (ν 8 4) c.toNat (ν 13) → am_AW l 0 (fun _ => 0) 19 Q 2 [some (.inr (.inr 52)), some (.inr (.inr 8)), some (.inr (.inr 29)), some (.inl c), o4] [] μ := fun c o4 μ hv0 hv1 hv2 hv3 => lp2 ((ν 53 1 - c) + 1).toNat c o4 μ hv0 hv1 hv2 hv3 (by omega)
  refine am_go (ct := fun pc => Nat.beq pc 16 || Nat.beq pc 2) am_oX1_mend 300 ?_
  conv => whnf
  repeat' first
    | (refine (?_ : am_wp _ _ _ _ _ _ _ _ _ _ _ _); conv => whnf)
    | (refine (?_ : am_sw _ _ _ _); conv => whnf)
    | refine And.intro trivial ?_
    | exact trivial
    | refine lp2' _ _ _ ?_ ?_ ?_ ?_
    | refine lp16' _ _ _ ?_ ?_ ?_ ?_ ?_ ?_ ?_
    | refine And.intro (fun h => absurd h (by decide)) (fun _ => ?_)
    | refine And.intro (fun _ => ?_) (fun h => absurd (by decide) h)
    | refine And.intro (fun _ => ?_) (fun _ => ?_)
    | refine And.intro ?_ ?_
  all_goals (first | decide | assumption | omega | rfl | exact fun _ _ _ => rfl | (trace_state; fail))
theorem s_gapsH {l : Launch} {ν : am_N} {Q : Option am_V → am_N → Prop} (n : Int) (cn : am_c n = n) (F : am_N) (hw : fp_fw 999 (fv ν 8)) (hR : fp_rq (fv ν 8) F (F 0 1) (F 5)) (h82 : ν 8 2 = 0) (n0 : 0 ≤ n) (n1 : n ≤ 60) (h2 : 2 ≤ ν 8 4) (hp : sx_3 ν 34) (hb : 0 ≤ ν 29 0 ∧ ν 29 0 ≤ 4) (m0 : 0 ≤ ν 53 1) (m4 : ν 53 1 ≤ 4) (em : ν 55 1 = ν 53 1) (hH : ∀ b : Nat, (b : Int) < ν 53 1 → 0 ≤ ν 54 b ∧ ν 54 b ≤ 3) (hY : ∀ b : Nat, (b : Int) < ν 55 1 → -9 ≤ ν 56 b ∧ ν 56 b ≤ 9) (k : ∀ μ' : am_N, (∀ a b, ¬(8 ≤ a ∧ a < 15) → a ≠ 33 → a ≠ 34 → ¬(a = 29 ∧ b = 0) → μ' a b = ν a b) → μ' 8 4 = ν 8 4 → sx_3 μ' 34 → (0 ≤ μ' 29 0 ∧ μ' 29 0 ≤ 4) → Q (some (.inl (fp_hQ F (fp_rt (ν 53 1) (ν 54)) (fp_rt (ν 55 1) (ν 56)) (ν 53 1).toNat n.toNat))) μ') : am_Does l 127 [.inr (.inr 0), .inl n, .inl 1] ν Q := by
  refine am_Does_of (Nat.le_of_ble_eq_true rfl) (Nat.le_of_ble_eq_true rfl) (Nat.le_of_ble_eq_true rfl) ?_
  have l0 : am_c 0 = 0 := rfl
  have l1 : am_c 1 = 1 := rfl
  have l2 : am_c 2 = 2 := rfl
  have l3 : am_c 3 = 3 := rfl
  have l4 : am_c 4 = 4 := rfl
  have l60 : am_c 60 = 60 := rfl
  have h4 := (fw_C hw (by decide)).1.1
  have f4 : F 0 4 = ν 8 4 := (hR.1 4 (by decide) (by decide) (by decide)).symm.trans (fv_0 (by decide))
  have hH2 : ∀ b : Nat, (b : Int) < ν 53 1 → 0 ≤ (fp_rt (ν 53 1) (ν 54)) b ∧ (fp_rt (ν 53 1) (ν 54)) b ≤ 3 := fun b z => by rw [fp_rt_i z]; exact hH b z
  have hY2 : ∀ b : Nat, (b : Int) < ν 53 1 → -9 ≤ (fp_rt (ν 55 1) (ν 56)) b ∧ (fp_rt (ν 55 1) (ν 56)) b ≤ 9 := fun b z => by rw [fp_rt_i (by rw [em]; exact z)]; exact hY b (by rw [em]; exact z)
  have kk := fun (x : Int) (μ' : am_N) a1 a2 a3 a4 (e : x = fp_hQ F (fp_rt (ν 53 1) (ν 54)) (fp_rt (ν 55 1) (ν 56)) (ν 53 1).toNat n.toNat) => am_qe (k μ' a1 a2 a3 a4) e
  have lp5 : ∀ (m : Nat) (w i : Int) (μ : am_N) , (∀ a b, ¬(8 ≤ a ∧ a < 15) → a ≠ 33 → a ≠ 34 → ¬(a = 29 ∧ b = 0) → μ a b = ν a b) → fp_rq (fv μ 8) F (F 0 1 + i) (fp_hS F (fp_rt (ν 53 1) (ν 54)) (fp_rt (ν 55 1) (ν 56)) (ν 53 1).toNat i.toNat) → 0 ≤ i → i ≤ n → w = fp_hQ F (fp_rt (ν 53 1) (ν 54)) (fp_rt (ν 55 1) (ν 56)) (ν 53 1).toNat i.toNat → sx_3 μ 34 → (0 ≤ μ 29 0 ∧ μ 29 0 ≤ 4) → fp_fw (999 + i) (fv μ 8) → μ 8 2 = 0 → n - i < (m : Int) → am_AW l 0 (fun _ => 0) 127 Q 5 [some (.inr (.inr 0)), some (.inl n), some (.inl 1), some (.inl w), some (.inl i)] [] μ := by
    intro m
    induction m with
    | zero =>
      intro w i μ hv0 hv1 hv2 hv3 hv4 hv5 hv6 hv7 hv8 hm
      exfalso
      omega
    | succ m ih =>
      intro w i μ hv0 hv1 hv2 hv3 hv4 hv5 hv6 hv7 hv8 hm
      have ci : am_c i = i := am_cR (by omega) (by omega)
      have h8 : fp_fw 1059 (fv μ 8) := fw_mono hv7 (by omega)
      have n8 : μ 8 4 = ν 8 4 := by rw [← fv_0 (μ := μ) (c := 8) (b := 4) (by decide), hv1.1 4 (by decide) (by decide) (by decide)]; exact f4
      have r8 : fv μ 8 0 2 = 0 := (fv_0 (by decide)).trans hv8
      have b0 := fp_f_b (fv μ 8)
      have bg := fp_g_b (fv μ 8)
      have b1 := fp_od_b (fp_tf (fv μ 8)) (μ 8 4) 1
      have e8 : fv μ 8 0 4 = μ 8 4 := fv_0 (by decide)
      have o0 : fp_f (fv μ 8) < μ 8 4 := by rw [← fv_f (by omega)]; exact fp_od_n (by omega) (by decide) (by omega)
      have o1 : fp_od (fp_tf (fv μ 8)) (μ 8 4) 1 < μ 8 4 := fp_od_n (by omega) (by decide) (by omega)
      have eF : fp_od (fp_tf (fv μ 8)) (μ 8 4) 0 = fp_f (fv μ 8) := by unfold fp_f; rw [e8]
      have eG : fp_od (fp_tf (fv μ 8)) (μ 8 4) (μ 8 4 - 1) = fp_g (fv μ 8) := by unfold fp_g; rw [e8]
      have eP : fp_tf (fv μ 8) (fp_od (fp_tf (fv μ 8)) (μ 8 4) 1).toNat - fp_tf (fv μ 8) (fp_f (fv μ 8)).toNat = fp_gp (fv μ 8) := by unfold fp_gp; rw [e8]
      have eQ := fp_rq_p hv1 (by omega)
      have rc := fp_rn_c (fv μ 8)
      refine am_go (ct := fun pc => Nat.beq pc 5) am_oX6_gaps 300 ?_
      conv => whnf
      repeat' first
        | (refine (?_ : am_wp _ _ _ _ _ _ _ _ _ _ _ _); conv => whnf)
        | (refine (?_ : am_sw _ _ _ _); conv => whnf)
        | refine And.intro trivial ?_
        | exact trivial
        | (refine (?_ : fp_rq _ _ _ _); (first | decide | assumption | omega | exact W3 | exact z82 | (intro a b q1 q2 q3 q4; rw [f3 a b (by omega)]; exact fr2 a b q1 q2 q3 q4) | (rw [show (i + 1).toNat = i.toNat + 1 by omega]; have ei : ((i.toNat : Nat) : Int) = i := Int.toNat_of_nonneg hv2; simp only [fp_hS]; rw [ei, f4]; rw [f4] at R3; exact R3) | (rw [show (i + 1).toNat = i.toNat + 1 by omega, hv4]; have ei : ((i.toNat : Nat) : Int) = i := Int.toNat_of_nonneg hv2; simp only [fp_hQ]; rw [ei, ← eQ]) | (intro p hp; rw [f3 34 p (by decide)]; exact b2 p hp) | (rw [f3 29 0 (by decide), n2, n8]; omega) | (rw [hv4, show i.toNat = n.toNat by (simp only [ci, cn] at *; first | done | omega)]) | (trace_state; fail)))
        | (refine (?_ : fp_fw _ _); (first | decide | assumption | omega | exact W3 | exact z82 | (intro a b q1 q2 q3 q4; rw [f3 a b (by omega)]; exact fr2 a b q1 q2 q3 q4) | (rw [show (i + 1).toNat = i.toNat + 1 by omega]; have ei : ((i.toNat : Nat) : Int) = i := Int.toNat_of_nonneg hv2; simp only [fp_hS]; rw [ei, f4]; rw [f4] at R3; exact R3) | (rw [show (i + 1).toNat = i.toNat + 1 by omega, hv4]; have ei : ((i.toNat : Nat) : Int) = i := Int.toNat_of_nonneg hv2; simp only [fp_hQ]; rw [ei, ← eQ]) | (intro p hp; rw [f3 34 p (by decide)]; exact b2 p hp) | (rw [f3 29 0 (by decide), n2, n8]; omega) | (rw [hv4, show i.toNat = n.toNat by (simp only [ci, cn] at *; first | done | omega)]) | (trace_state; fail)))
        | (refine x_goOn_29_8 1059 h8 (by decide) (by omega) hv5 (fun μ2 g2 p2 b2 n2 y34 y33 => ?_); have m2 : μ2 8 4 = ν 8 4 := (g2 8 4 (by omega) (by omega) (by omega) (by omega) (by omega) (by omega)).trans n8)
        | (refine x_gap (fp_f (fv μ 8)) (fp_od (fp_tf (fv μ 8)) (μ 8 4) 1) ((y34 0 (by omega)).trans eF) (y34 1 (by omega)) (by omega) (by omega) (by omega) (by omega) (by rw [n2]; omega) (by rw [n2]; omega) ?_; rw [y33 _ (by omega), y33 _ (by omega), eP])
        | (have fr2 : ∀ a b, ¬(8 ≤ a ∧ a < 15) → a ≠ 33 → a ≠ 34 → ¬(a = 29 ∧ b = 0) → μ2 a b = ν a b := (fun a b q1 q2 q3 q4 => (g2 a b (by omega) (by omega) (by omega) q2 q3 q4).trans (hv0 a b q1 q2 q3 q4)); have e53 : ∀ a b, 50 ≤ a → a < 60 → μ2 a b = ν a b := (fun a b q1 q2 => fr2 a b (by omega) (by omega) (by omega) (by omega)); have x53 : μ2 53 1 = ν 53 1 := e53 53 1 (by decide) (by decide); have x55 : μ2 55 1 = ν 55 1 := e53 55 1 (by decide) (by decide); have w2 := fw_rn (V := 999 + i + 1) hv7 (by omega); rw [← p2] at w2; have hs2 : ∀ b : Nat, b < 4 → 0 ≤ μ2 13 b ∧ μ2 13 b ≤ 99 := (fun b hb => by have z := w2.2.2.2.2.2.1 b hb; rw [fv_a (by decide) (by decide) hb] at z; exact z); refine s_hmend (fp_f (fv μ 8)) (fp_g (fv μ 8)) (fp_rt (ν 53 1) (ν 54)) (fp_rt (ν 55 1) (ν 56)) (by rw [m2]; omega) (by rw [m2]; omega) (by rw [n2, n8, m2]) ((y34 0 (by omega)).trans eF) (by rw [n2, y34 _ (by omega), show (((μ 8 4 - 1).toNat : Nat) : Int) = μ 8 4 - 1 by omega]; exact eG) b0.1 b0.2 bg.1 bg.2 (by rw [x53]; exact m0) (by rw [x53]; exact m4) (by rw [x53, x55]; exact em) (fun b hb => by rw [x53] at hb; rw [e53 54 b (by decide) (by decide), fp_rt_i hb]) (fun b hb => by rw [x53] at hb; rw [e53 56 b (by decide) (by decide), fp_rt_i (by rw [em]; exact hb)]) (fun b hb => hH2 b (by rw [x53] at hb; exact hb)) (fun b hb => hY2 b (by rw [x53] at hb; exact hb)) hs2 (fun μ3 f3 s3 => ?_); rw [x53, m2] at s3; have j0 : ∀ b : Nat, b < 5 → fv μ3 8 0 b = fp_rn (fv μ 8) 0 b := (fun b hb => by rw [← p2, fv_0 hb, fv_0 hb]; exact f3 8 b (by decide)); have ja : ∀ a b : Nat, 0 < a → a < 5 → b < 4 → fv μ3 8 a b = fv μ 8 a b := (fun a b q1 q2 q3 => by rw [← rc.2.2.1 a b q1 q2 q3, ← p2, fv_a q1 (by omega) q3, fv_a q1 (by omega) q3]; exact f3 (8 + a) b (by omega)); have j5 : ∀ b : Nat, b < 4 → fv μ3 8 5 b = fp_hb (fp_rt (ν 53 1) (ν 54)) (fp_rt (ν 55 1) (ν 56)) (fp_f (fv μ 8)) (fp_g (fv μ 8)) (fv μ 8 0 4) (ν 53 1).toNat (fv μ 8 5) b := (fun b hb => by rw [fv_a (by decide) (by decide) hb, show μ3 (8 + 5) = μ3 13 from rfl, s3, e8, n8]; exact fp_hb_c (fun x hx => by rw [← rc.2.2.2 r8 x hx, ← p2]; exact (fv_a (μ := μ2) (c := 8) (a := 5) (by decide) (by decide) hx).symm) _ b hb); have R3 := fp_rq_s (w2 := F 0 1 + (i + 1)) hv1 (by omega) (by omega) (fun b q1 q2 => (j0 b q1).trans (rc.1 b q1 q2)) ((j0 1 (by decide)).trans rc.2.1) ja j5; have W3 := fw_s5 (V := 999 + (i + 1)) hv7 (by omega) (fun b q1 q2 => (j0 b q1).trans (rc.1 b q1 q2)) ((j0 1 (by decide)).trans rc.2.1) ja (fun b hb => by rw [j5 b hb]; exact fp_hb_b hv7.2.2.2.2.2.1 _ b hb); have z82 : μ3 8 2 = 0 := ((fv_0 (by decide)).symm.trans (j0 2 (by decide))).trans ((rc.1 2 (by decide) (by decide)).trans r8))
        | refine kk _ _ hv0 n8 hv5 hv6 ?_
        | refine ih _ _ _ ?_ ?_ ?_ ?_ ?_ ?_ ?_ ?_ ?_ ?_
        | refine And.intro (fun h => absurd h (by decide)) (fun _ => ?_)
        | refine And.intro (fun _ => ?_) (fun h => absurd (by decide) h)
        | refine And.intro (fun _ => ?_) (fun _ => ?_)
        | refine And.intro ?_ ?_
      all_goals (first | decide | assumption | omega | exact W3 | exact z82 | (intro a b q1 q2 q3 q4; rw [f3 a b (by omega)]; exact fr2 a b q1 q2 q3 q4) | (rw [show (i + 1).toNat = i.toNat + 1 by omega]; have ei : ((i.toNat : Nat) : Int) = i := Int.toNat_of_nonneg hv2; simp only [fp_hS]; rw [ei, f4]; rw [f4] at R3; exact R3) | (rw [show (i + 1).toNat = i.toNat + 1 by omega, hv4]; have ei : ((i.toNat : Nat) : Int) = i := Int.toNat_of_nonneg hv2; simp only [fp_hQ]; rw [ei, ← eQ]) | (intro p hp; rw [f3 34 p (by decide)]; exact b2 p hp) | (rw [f3 29 0 (by decide), n2, n8]; omega) | (rw [hv4, show i.toNat = n.toNat by (simp only [ci, cn] at *; first | done | omega)]) | (trace_state; fail))
  have lp5' : ∀ (w i : Int) (μ : am_N) , (∀ a b, ¬(8 ≤ a ∧ a < 15) → a ≠ 33 → a ≠ 34 → ¬(a = 29 ∧ b = 0) → μ a b = ν a b) → fp_rq (fv μ 8) F (F 0 1 + i) (fp_hS F (fp_rt (ν 53 1) (ν 54)) (fp_rt (ν 55 1) (ν 56)) (ν 53 1).toNat i.toNat) → 0 ≤ i → i ≤ n → w = fp_hQ F (fp_rt (ν 53 1) (ν 54)) (fp_rt (ν 55 1) (ν 56)) (ν 53 1).toNat i.toNat → sx_3 μ 34 → (0 ≤ μ 29 0 ∧ μ 29 0 ≤ 4) → fp_fw (999 + i) (fv μ 8) → μ 8 2 = 0 → am_AW l 0 (fun _ => 0) 127 Q 5 [some (.inr (.inr 0)), some (.inl n), some (.inl 1), some (.inl w), some (.inl i)] [] μ := fun w i μ hv0 hv1 hv2 hv3 hv4 hv5 hv6 hv7 hv8 => lp5 ((n - i) + 1).toNat w i μ hv0 hv1 hv2 hv3 hv4 hv5 hv6 hv7 hv8 (by omega)
  refine am_go (ct := fun pc => Nat.beq pc 5) am_oX6_gaps 300 ?_
  conv => whnf
  repeat' first
    | (refine (?_ : am_wp _ _ _ _ _ _ _ _ _ _ _ _); conv => whnf)
    | (refine (?_ : am_sw _ _ _ _); conv => whnf)
    | refine And.intro trivial ?_
    | exact trivial
    | (refine (?_ : fp_rq _ _ _ _); (first | decide | assumption | omega | rfl | (intros; rfl) | (rw [show F 0 1 + 0 = F 0 1 by omega]; exact hR) | (rw [show (999 : Int) + 0 = 999 by omega]; exact hw) | (trace_state; fail)))
    | (refine (?_ : fp_fw _ _); (first | decide | assumption | omega | rfl | (intros; rfl) | (rw [show F 0 1 + 0 = F 0 1 by omega]; exact hR) | (rw [show (999 : Int) + 0 = 999 by omega]; exact hw) | (trace_state; fail)))
    | refine lp5' _ _ _ ?_ ?_ ?_ ?_ ?_ ?_ ?_ ?_ ?_
    | refine And.intro (fun h => absurd h (by decide)) (fun _ => ?_)
    | refine And.intro (fun _ => ?_) (fun h => absurd (by decide) h)
    | refine And.intro (fun _ => ?_) (fun _ => ?_)
    | refine And.intro ?_ ?_
  all_goals (first | decide | assumption | omega | rfl | (intros; rfl) | (rw [show F 0 1 + 0 = F 0 1 by omega]; exact hR) | (rw [show (999 : Int) + 0 = 999 by omega]; exact hw) | (trace_state; fail))
theorem s_tried {l : Launch} {ν : am_N} {Q : Option am_V → am_N → Prop} (n w : Int) (cn : am_c n = n) (cw : am_c w = w) (hS : sx ν ν) (hw : fp_fw 999 (fv ν 1)) (m0 : 0 ≤ ν 53 1) (m4 : ν 53 1 ≤ 4) (em : ν 55 1 = ν 53 1) (hH : ∀ b : Nat, (b : Int) < ν 53 1 → 0 ≤ ν 54 b ∧ ν 54 b ≤ 3) (hY : ∀ b : Nat, (b : Int) < ν 55 1 → -9 ≤ ν 56 b ∧ ν 56 b ≤ 9) (k : ∀ μ' : am_N, sx ν μ' → Q (some (.inl (fp_tdr (fv ν 1) (fp_rt (ν 53 1) (ν 54)) (fp_rt (ν 55 1) (ν 56)) (ν 53 1) n w))) μ') : am_Does l 105 [.inr (.inr 0), .inl n, .inl w] ν Q := by
  refine am_Does_of (Nat.le_of_ble_eq_true rfl) (Nat.le_of_ble_eq_true rfl) (Nat.le_of_ble_eq_true rfl) ?_
  have l0 : am_c 0 = 0 := rfl
  have l1 : am_c 1 = 1 := rfl
  have l2 : am_c 2 = 2 := rfl
  have l3 : am_c 3 = 3 := rfl
  have l4 : am_c 4 = 4 := rfl
  have l60 : am_c 60 = 60 := rfl
  have m1' : am_c (-1) = -1 := rfl
  have m2' : am_c (-2) = -2 := rfl
  have m3' : am_c (-3) = -3 := rfl
  have m4' : am_c (-4) = -4 := rfl
  have m6' : am_c (-6) = -6 := rfl
  have m9' : am_c (-9) = -9 := rfl
  obtain ⟨hf, -, -, -, -, -, hx⟩ := fw_C hw (by decide)
  have f0 := hf.1.1
  have f1 := hf.1.2
  have e4 : fv ν 1 0 4 = ν 1 4 := fv_0 (by decide)
  have c14 : am_c (ν 1 4) = ν 1 4 := am_cR (by omega) (by omega)
  have h15 := hS.2.2.2.1
  have hQ := fun (z0 : 0 ≤ n) (z1 : n ≤ 60) (z2 : 2 ≤ ν 1 4) => fp_hQ_b (H := (fp_rt (ν 53 1) (ν 54))) (Y := (fp_rt (ν 55 1) (ν 56))) (m := (ν 53 1).toNat) hw (by rw [e4]; exact z2) n.toNat (by omega)
  have hGs := fun (z0 : 0 ≤ n) (z1 : n ≤ 60) (z2 : 2 ≤ ν 1 4) => fp_gs_b hw (by rw [e4]; exact z2) n.toNat (by omega)
  have kk := fun (x : Int) (μ' : am_N) (h : sx ν μ') (e : x = fp_tdr (fv ν 1) (fp_rt (ν 53 1) (ν 54)) (fp_rt (ν 55 1) (ν 56)) (ν 53 1) n w) => am_qe (k μ' h) e
  refine am_go (ct := fun _ => false) am_oX6_tried 300 ?_
  conv => whnf
  repeat' first
    | (refine (?_ : am_wp _ _ _ _ _ _ _ _ _ _ _ _); conv => whnf)
    | (refine (?_ : am_sw _ _ _ _); conv => whnf)
    | refine And.intro trivial ?_
    | exact trivial
    | refine x_noPart _ cw (fun z => ?_) (fun z => ?_)
    | refine x_refuse _ ?_ (fun μr fr => ?_)
    | (have n0 : 0 ≤ n := (by (simp only [cn, l0] at *; first | done | omega)); have n1 : n ≤ 60 := (by (simp only [cn, l60] at *; first | done | omega)); have h2 : 2 ≤ ν 1 4 := (by (simp only [c14, l2] at *; first | done | omega)); have hq := hQ n0 n1 h2; have hg := hGs n0 n1 h2; have cq : am_c (fp_hQ (fv ν 1) (fp_rt (ν 53 1) (ν 54)) (fp_rt (ν 55 1) (ν 56)) (ν 53 1).toNat n.toNat) = fp_hQ (fv ν 1) (fp_rt (ν 53 1) (ν 54)) (fp_rt (ν 55 1) (ν 56)) (ν 53 1).toNat n.toNat := am_cR (by omega) (by omega); have cg : am_c (fp_gs (fv ν 1) n.toNat) = fp_gs (fv ν 1) n.toNat := am_cR (by omega) (by omega); refine x_take_8_1 (fun μ1 g1 s1 r1 => ?_); have p1 : fv μ1 8 = (fv ν 1) := fv_tk s1 r1; have p2 : fv (am_up μ1 8 2 0) 8 = fp_ru2 (fv ν 1) 0 := (by rw [show fv (am_up μ1 8 2 0) 8 = fp_ct (am_up (fv μ1 8) 0 2 0) from fv_up0, p1]; rfl); have m8 : am_up μ1 8 2 0 8 4 = ν 1 4 := (am_upM (by decide)).trans (s1 4 (by decide)); have fr8 : ∀ a b, ¬(8 ≤ a ∧ a < 15) → am_up μ1 8 2 0 a b = ν a b := (fun a b q => (am_upN (by omega)).trans (g1 a b q)); have r53 : am_up μ1 8 2 0 53 1 = ν 53 1 := fr8 53 1 (by omega); have r55 : am_up μ1 8 2 0 55 1 = ν 55 1 := fr8 55 1 (by omega); have r54 : am_up μ1 8 2 0 54 = ν 54 := funext (fun b => fr8 54 b (by omega)); have r56 : am_up μ1 8 2 0 56 = ν 56 := funext (fun b => fr8 56 b (by omega)))
    | (refine s_gapsH n cn (fv ν 1) (by rw [p2]; exact fw_ru2 hw ⟨by decide, by decide⟩) (by rw [p2]; exact fp_rq_ru (fv ν 1) 0) (if_pos ⟨rfl, rfl⟩) n0 n1 (by rw [m8]; exact h2) (fun p hp => by rw [fr8 34 p (by omega)]; exact hS.2.1 p hp) (by rw [fr8 29 0 (by omega)]; exact h15.2.2.1) (by rw [r53]; exact m0) (by rw [r53]; exact m4) (by rw [r53, r55]; exact em) (by rw [r53, r54]; exact hH) (by rw [r55, r56]; exact hY) (fun μ2 g2 n2 b2 z2 => ?_); rw [r53, r54, r55, r56]; have fw2 : (∀ a b, ¬(8 ≤ a ∧ a < 15) → a ≠ 33 → a ≠ 34 → ¬(a = 29 ∧ b = 0) → μ2 a b = ν a b) := (fun a b q1 q2 q3 q4 => (g2 a b q1 q2 q3 q4).trans (fr8 a b q1)); have sE : sx ν μ2 := sx_lt hS (fun a b q1 q2 q3 q4 _ => fw2 a b q1 q2 q3 q4) b2 (by rw [n2, m8]; exact ⟨f0, f1⟩) z2)
    | (have eF2 : fv μ2 1 = (fv ν 1) := fv_keep (fun a b q1 q2 => fw2 a b (by omega) (by omega) (by omega) (by omega)); refine x_take_8_1 (fun μ3 g3 s3 r3 => ?_); have p3 : fv μ3 8 = (fv ν 1) := (fv_tk s3 r3).trans eF2; have m3 : μ3 8 4 = ν 1 4 := (s3 4 (by decide)).trans (fw2 1 4 (by omega) (by omega) (by omega) (by omega)))
    | (refine s_gaps n cn (by rw [p3]; exact hw) n0 n1 (by rw [m3]; exact h2) (fun p hp => by rw [g3 34 p (by omega)]; exact b2 p hp) (by rw [g3 29 0 (by omega)]; exact z2) (fun μ4 g4 n4 b4 z4 => ?_); rw [p3]; have sF : sx ν μ4 := sx_lt hS (fun a b q1 q2 q3 q4 _ => (g4 a b q1 q2 q3 q4).trans ((g3 a b q1).trans (fw2 a b q1 q2 q3 q4))) b4 (by rw [n4, m3]; exact ⟨f0, f1⟩) z4)
    | refine kk _ _ sF ?_
    | refine kk _ _ sE ?_
    | refine kk _ _ (sx_78 hS fr) ?_
    | refine And.intro (fun h => absurd h (by decide)) (fun _ => ?_)
    | refine And.intro (fun _ => ?_) (fun h => absurd (by decide) h)
    | refine And.intro (fun _ => ?_) (fun _ => ?_)
    | refine And.intro ?_ ?_
  all_goals (first | decide | omega | (unfold fp_tdr; rw [e4, if_neg (by (simp only [cn, l0] at *; first | done | omega)), if_neg (by (simp only [cn, l60] at *; first | done | omega)), if_neg (by omega), if_neg (by (simp only [c14, l2] at *; first | done | omega))]; first | (rw [if_pos (by (simp only [cw, l0] at *; first | done | omega))]) | (rw [if_neg (by (simp only [cw, l0] at *; first | done | omega))]; first | (rw [if_pos (by (simp only [cq, cg] at *; first | done | omega))]) | (rw [if_neg (by (simp only [cq, cg] at *; first | done | omega))]))) | (unfold fp_tdr; rw [if_pos (by (simp only [cn, l0] at *; first | done | omega))]) | (unfold fp_tdr; rw [if_neg (by (simp only [cn, l0] at *; first | done | omega)), if_pos (by (simp only [cn, l60] at *; first | done | omega))]) | (unfold fp_tdr; rw [if_neg (by (simp only [cn, l0] at *; first | done | omega)), if_neg (by (simp only [cn, l60] at *; first | done | omega)), if_pos (by omega)]) | (unfold fp_tdr; rw [e4, if_neg (by (simp only [cn, l0] at *; first | done | omega)), if_neg (by (simp only [cn, l60] at *; first | done | omega)), if_neg (by omega), if_pos (by (simp only [c14, l2] at *; first | done | omega))]) | (trace_state; fail))
theorem x_isWhom {l : Launch} {ν : am_N} {Q : Option am_V → am_N → Prop} (i w f g : Int) (i0 : 0 ≤ i) (i1 : i ≤ 3) (w0 : 0 ≤ w) (w3 : w ≤ 3) (hF : ν 100 0 = f) (hG : ν 100 (ν 83 14 - 1).toNat = g) (f0 : 0 ≤ f) (f3 : f ≤ 3) (g0 : 0 ≤ g) (g3 : g ≤ 3) (n1 : 1 ≤ ν 83 14) (n4 : ν 83 14 ≤ 4) (k : ∀ v : Int, (v = 1 ∧ fp_ms w i f g) ∨ (v = 0 ∧ ¬ fp_ms w i f g) → Q (some (.inl v)) ν) : am_Does l 235 [.inr (.inr 83), .inl i, .inl w] ν Q := by
  refine am_Does_of (Nat.le_of_ble_eq_true rfl) (Nat.le_of_ble_eq_true rfl) (Nat.le_of_ble_eq_true rfl) ?_
  have l0 : am_c 0 = 0 := rfl
  have l1 : am_c 1 = 1 := rfl
  have l2 : am_c 2 = 2 := rfl
  have l3 : am_c 3 = 3 := rfl
  have l4 : am_c 4 = 4 := rfl
  have l60 : am_c 60 = 60 := rfl
  have ci : am_c i = i := am_cR (by omega) (by omega)
  have cw : am_c w = w := am_cR (by omega) (by omega)
  have cf : am_c f = f := am_cR (by omega) (by omega)
  have cg : am_c g = g := am_cR (by omega) (by omega)
  have cn1 : am_c (ν 83 14 - 1) = ν 83 14 - 1 := am_cR (by omega) (by omega)
  have w0' : ν 100 (am_c 0).toNat = f := hF
  have w1' : ν 100 (am_c (ν 83 14 - 1)).toNat = g := by rw [cn1]; exact hG
  have cF : am_c (ν 100 (am_c 0).toNat) = f := by rw [w0', cf]
  have cG : am_c (ν 100 (am_c (ν 83 14 - 1)).toNat) = g := by rw [w1', cg]
  refine am_go (ct := fun _ => false) am_oX7_isWhom 300 ?_
  conv => whnf
  repeat' first
    | (refine (?_ : am_wp _ _ _ _ _ _ _ _ _ _ _ _); conv => whnf)
    | (refine (?_ : am_sw _ _ _ _); conv => whnf)
    | refine And.intro trivial ?_
    | exact trivial
    | (refine k _ ?_)
    | refine And.intro (fun h => absurd h (by decide)) (fun _ => ?_)
    | refine And.intro (fun _ => ?_) (fun h => absurd (by decide) h)
    | refine And.intro (fun _ => ?_) (fun _ => ?_)
    | refine And.intro ?_ ?_
  all_goals (first | decide | omega | (rw [cn1]; omega) | (first | (left; refine ⟨rfl, ?_⟩; unfold fp_ms; simp only [cF, cG, ci, cw, l1, l2, l3] at *; omega) | (right; refine ⟨rfl, ?_⟩; unfold fp_ms; simp only [cF, cG, ci, cw, l1, l2, l3] at *; omega)) | (trace_state; fail))
theorem n_hmend {l : Launch} {ν : am_N} {Q : Option am_V → am_N → Prop} (f g : Int) (H Y : Nat → Int) (n0 : 1 ≤ ν 83 14) (n4 : ν 83 14 ≤ 4) (hF : ν 100 0 = f) (hG : ν 100 (ν 83 14 - 1).toNat = g) (f0 : 0 ≤ f) (f3 : f ≤ 3) (g0 : 0 ≤ g) (g3 : g ≤ 3) (m0 : 0 ≤ ν 83 16) (m4 : ν 83 16 ≤ 4) (eH : ∀ b : Nat, (b : Int) < ν 83 16 → ν 92 b = H b) (eY : ∀ b : Nat, (b : Int) < ν 83 16 → ν 93 b = Y b) (hH : ∀ b : Nat, (b : Int) < ν 83 16 → 0 ≤ H b ∧ H b ≤ 3) (hY : ∀ b : Nat, (b : Int) < ν 83 16 → -9 ≤ Y b ∧ Y b ≤ 9) (hs : ∀ b : Nat, b < 4 → 0 ≤ ν 89 b ∧ ν 89 b ≤ 99) (k : ∀ μ' : am_N, (∀ a b, a ≠ 89 → ¬(a = 83 ∧ b = 11) → μ' a b = ν a b) → μ' 89 = fp_hb H Y f g (ν 83 14) (ν 83 16).toNat (ν 89) → μ' 83 11 = ν 83 11 + 1 → Q none μ') : am_Does l 236 [.inr (.inr 83)] ν Q := by
  refine am_Does_of (Nat.le_of_ble_eq_true rfl) (Nat.le_of_ble_eq_true rfl) (Nat.le_of_ble_eq_true rfl) ?_
  have l0 : am_c 0 = 0 := rfl
  have l1 : am_c 1 = 1 := rfl
  have l2 : am_c 2 = 2 := rfl
  have l3 : am_c 3 = 3 := rfl
  have l4 : am_c 4 = 4 := rfl
  have l60 : am_c 60 = 60 := rfl
  have cn : am_c (ν 83 14) = ν 83 14 := am_cR (by omega) (by omega)
  have pb := fp_mn_b m0 m4 n0 n4
  have cP : am_c (ν 83 16 * ν 83 14) = ν 83 16 * ν 83 14 := am_cR (by omega) (by omega)
  have lp2 : ∀ (m : Nat) (t : Int) (o2 : Option am_V) (μ : am_N) , (∀ a b, a ≠ 89 → μ a b = ν a b) → 0 ≤ t → t ≤ ν 83 16 * ν 83 14 → μ 89 = fp_cl (H (t / ν 83 14).toNat) (Y (t / ν 83 14).toNat) f g (t % ν 83 14) (fp_hb H Y f g (ν 83 14) (t / ν 83 14).toNat (ν 89)) → ν 83 16 * ν 83 14 - t < (m : Int) → am_AW l 0 (fun _ => 0) 236 Q 2 [some (.inr (.inr 83)), some (.inl t), o2] [] μ := by
    intro m
    induction m with
    | zero =>
      intro t o2 μ hv0 hv1 hv2 hv3 hm
      exfalso
      omega
    | succ m ih =>
      intro t o2 μ hv0 hv1 hv2 hv3 hm
      have ct : am_c t = t := am_cR (by omega) (by omega)
      have en : μ 83 14 = ν 83 14 := hv0 83 14 (by decide)
      have em : μ 83 16 = ν 83 16 := hv0 83 16 (by decide)
      have rem : (am_c t).tmod (am_c (ν 83 14)) = t % ν 83 14 := by rw [ct, cn, Int.tmod_eq_emod_of_nonneg hv1]
      have quo : (am_c t).tdiv (am_c (ν 83 14)) = t / ν 83 14 := by rw [ct, cn, Int.tdiv_eq_ediv_of_nonneg hv1]
      obtain ⟨dj, dc, dd⟩ := fp_dm (n := ν 83 14) hv1 n0 n4
      have dl := fun z : t < ν 83 16 * ν 83 14 => fp_dl (m := ν 83 16) hv1 n0 n4 z
      have cj : am_c (t % ν 83 14) = t % ν 83 14 := am_cR (by omega) (by omega)
      have ej : (am_c (t % ν 83 14)).toNat = (t % ν 83 14).toNat := by rw [cj]
      have cc := fun z : t < ν 83 16 * ν 83 14 => (show am_c (t / ν 83 14) = t / ν 83 14 by have := dl z; exact am_cR (by omega) (by omega))
      have b3 := fp_cl_b (w := H (t / ν 83 14).toNat) (y := Y (t / ν 83 14).toNat) (f := f) (g := g) (i := t % ν 83 14) (fp_hb_b (H := H) (Y := Y) (f := f) (g := g) (n := ν 83 14) hs (t / ν 83 14).toNat) (t % ν 83 14).toNat (by omega)
      have fd := fp_cl_d (H := H) (Y := Y) (f := f) (g := g) (s := ν 89) hv1 n0 n4
      refine am_go (ct := fun pc => Nat.beq pc 2) am_oX7_mendsByHabit 300 ?_
      conv => whnf
      repeat' first
        | (refine (?_ : am_wp _ _ _ _ _ _ _ _ _ _ _ _); conv => whnf)
        | (refine (?_ : am_sw _ _ _ _); conv => whnf)
        | refine And.intro trivial ?_
        | exact trivial
        | (have tP : t < ν 83 16 * ν 83 14 := (by (simp only [ct, en, em, cP] at *; first | done | omega)); (first | have dl := dl tP | skip); (first | have cc := cc tP | skip); have hc := hH (t / ν 83 14).toNat (by omega); have hy := hY (t / ν 83 14).toNat (by omega); rw [en, rem, quo, cc, hv0 92 _ (by decide), eH (t / ν 83 14).toNat (by omega)]; refine x_isWhom (t % ν 83 14) (H (t / ν 83 14).toNat) f g (by omega) (by omega) hc.1 hc.2 ((hv0 100 0 (by decide)).trans hF) (by rw [hv0 100 _ (by decide), en]; exact hG) f0 f3 g0 g3 (by rw [en]; exact n0) (by rw [en]; exact n4) (fun v hv => ?_); have cv : am_c v = v := (by rcases hv with h | h <;> rw [h.1] <;> rfl))
        | (rw [en, quo, cc, ej, hv0 93 _ (by decide), eY (t / ν 83 14).toNat (by omega), hv3]; refine x_held _ (by omega) (by omega) ?_)
        | (have tE : t = ν 83 16 * ν 83 14 := (by (simp only [ct, en, em, cP] at *; first | done | omega)); have de := fp_de (m := ν 83 16) n0 n4; refine k _ ?_ ?_ ?_)
        | refine ih _ _ _ ?_ ?_ ?_ ?_ ?_
        | refine And.intro (fun h => absurd h (by decide)) (fun _ => ?_)
        | refine And.intro (fun _ => ?_) (fun h => absurd (by decide) h)
        | refine And.intro (fun _ => ?_) (fun _ => ?_)
        | refine And.intro ?_ ?_
      all_goals (first | decide | assumption | omega | (rw [en, cn]; omega) | (rw [ct]; (simp only [ct, en, em, cP] at *; first | done | omega)) | (rw [en, quo, cc]; omega; done) | (rw [en, rem, cj]; omega) | (rw [cj]; omega) | (rw [quo, cc]; omega; done) | (have tP : t < ν 83 16 * ν 83 14 := (by (simp only [ct, en, em, cP] at *; first | done | omega)); rw [en, quo, cc tP]; have z := dl tP; omega) | (intro a b h; rw [am_upN h]; exact hv0 a b h) | (rw [ej, am_pt_up, hv3]; refine Eq.trans ?_ fd; exact fp_cl_y dj.1 (by rcases hv with h | h; (exact h.2); (exfalso; omega))) | (rw [hv3]; refine Eq.trans ?_ fd; exact fp_cl_n dj.1 (by rcases hv with h | h; (exfalso; omega); (exact h.2))) | (intro a b q1 q2; rw [am_uE q2]; exact hv0 a b q1) | (funext b; rw [am_upN (by decide), hv3, tE, de.1, de.2, fp_cl_0]) | (rw [am_upS, if_pos ⟨rfl, rfl⟩, hv0 83 11 (by decide)]) | (trace_state; fail))
  have lp2' : ∀ (t : Int) (o2 : Option am_V) (μ : am_N) , (∀ a b, a ≠ 89 → μ a b = ν a b) → 0 ≤ t → t ≤ ν 83 16 * ν 83 14 → μ 89 = fp_cl (H (t / ν 83 14).toNat) (Y (t / ν 83 14).toNat) f g (t % ν 83 14) (fp_hb H Y f g (ν 83 14) (t / ν 83 14).toNat (ν 89)) → am_AW l 0 (fun _ => 0) 236 Q 2 [some (.inr (.inr 83)), some (.inl t), o2] [] μ := fun t o2 μ hv0 hv1 hv2 hv3 => lp2 ((ν 83 16 * ν 83 14 - t) + 1).toNat t o2 μ hv0 hv1 hv2 hv3 (by omega)
  refine am_go (ct := fun pc => Nat.beq pc 2) am_oX7_mendsByHabit 300 ?_
  conv => whnf
  repeat' first
    | (refine (?_ : am_wp _ _ _ _ _ _ _ _ _ _ _ _); conv => whnf)
    | (refine (?_ : am_sw _ _ _ _); conv => whnf)
    | refine And.intro trivial ?_
    | exact trivial
    | refine lp2' _ _ _ ?_ ?_ ?_ ?_
    | refine And.intro (fun h => absurd h (by decide)) (fun _ => ?_)
    | refine And.intro (fun _ => ?_) (fun h => absurd (by decide) h)
    | refine And.intro (fun _ => ?_) (fun _ => ?_)
    | refine And.intro ?_ ?_
  all_goals (first | decide | assumption | omega | rfl | exact fun _ _ _ => rfl | (rw [show (0 : Int) / ν 83 14 = 0 from Int.zero_ediv _, show (0 : Int) % ν 83 14 = 0 from Int.zero_emod _, fp_cl_0]; rfl) | (trace_state; fail))
theorem n_gapsH {l : Launch} {ν : am_N} {Q : Option am_V → am_N → Prop} (n : Int) (cn : am_c n = n) (hm : mi ν) (hw : fp_fw 999 (mv ν)) (n0 : 0 ≤ n) (n1 : n ≤ 60) (h2 : 2 ≤ ν 83 14) (hH : ∀ b : Nat, (b : Int) < ν 83 16 → 0 ≤ ν 92 b ∧ ν 92 b ≤ 3) (hY : ∀ b : Nat, (b : Int) < ν 83 16 → -9 ≤ ν 93 b ∧ ν 93 b ≤ 9) (k : ∀ μ' : am_N, gm mQ ν μ' → Q (some (.inl (fp_hQ (mv ν) (fp_rt (ν 83 16) (ν 92)) (fp_rt (ν 83 16) (ν 93)) (ν 83 16).toNat n.toNat))) μ') : am_Does l 237 [.inr (.inr 83), .inl n] ν Q := by
  refine am_Does_of (Nat.le_of_ble_eq_true rfl) (Nat.le_of_ble_eq_true rfl) (Nat.le_of_ble_eq_true rfl) ?_
  have l0 : am_c 0 = 0 := rfl
  have l1 : am_c 1 = 1 := rfl
  have l2 : am_c 2 = 2 := rfl
  have l3 : am_c 3 = 3 := rfl
  have l4 : am_c 4 = 4 := rfl
  have l60 : am_c 60 = 60 := rfl
  have h4 := (fw_M hw (by decide)).1.1
  have hc := mi_all hm
  have m16 : 0 ≤ ν 83 16 ∧ ν 83 16 ≤ 4 := by omega
  clear hc
  have f4 : mv ν 0 4 = ν 83 14 := rfl
  have hH2 : ∀ b : Nat, (b : Int) < ν 83 16 → 0 ≤ (fp_rt (ν 83 16) (ν 92)) b ∧ (fp_rt (ν 83 16) (ν 92)) b ≤ 3 := fun b z => by rw [fp_rt_i z]; exact hH b z
  have hY2 : ∀ b : Nat, (b : Int) < ν 83 16 → -9 ≤ (fp_rt (ν 83 16) (ν 93)) b ∧ (fp_rt (ν 83 16) (ν 93)) b ≤ 9 := fun b z => by rw [fp_rt_i z]; exact hY b z
  have kk := fun (x : Int) (μ' : am_N) a1 (e : x = fp_hQ (mv ν) (fp_rt (ν 83 16) (ν 92)) (fp_rt (ν 83 16) (ν 93)) (ν 83 16).toNat n.toNat) => am_qe (k μ' a1) e
  have lp10 : ∀ (m : Nat) (w i : Int) (μ : am_N) , MD mQ ν μ → fp_rq (mv μ) (mv ν) ((mv ν) 0 1 + i) (fp_hS (mv ν) (fp_rt (ν 83 16) (ν 92)) (fp_rt (ν 83 16) (ν 93)) (ν 83 16).toNat i.toNat) → 0 ≤ i → i ≤ n → w = fp_hQ (mv ν) (fp_rt (ν 83 16) (ν 92)) (fp_rt (ν 83 16) (ν 93)) (ν 83 16).toNat i.toNat → fp_fw (999 + i) (mv μ) → μ 83 16 = ν 83 16 → (∀ b, μ 92 b = ν 92 b) → (∀ b, μ 93 b = ν 93 b) → n - i < (m : Int) → am_AW l 0 (fun _ => 0) 237 Q 10 [some (.inr (.inr 83)), some (.inl n), some (.inl w), some (.inl i)] [] μ := by
    intro m
    induction m with
    | zero =>
      intro w i μ hv0 hv1 hv2 hv3 hv4 hv5 hv6 hv7 hv8 hm
      exfalso
      omega
    | succ m ih =>
      intro w i μ hv0 hv1 hv2 hv3 hv4 hv5 hv6 hv7 hv8 hm
      have ci : am_c i = i := am_cR (by omega) (by omega)
      have hmi := md_i hv0
      have h8 : fp_fw 1059 (mv μ) := fw_mono hv5 (by omega)
      have n8 : μ 83 14 = ν 83 14 := hv1.1 4 (by decide) (by decide) (by decide)
      obtain ⟨hf8, hr8, hy8, hs8, -, -, -⟩ := fw_M h8 (by decide)
      have hn8 := hf8.1.2
      have b0 := fp_f_b (mv μ)
      have b1 := fp_od_b (fp_tf (mv μ)) (μ 83 14) 1
      have gb := fp_g_b (mv μ)
      have o0 : fp_f (mv μ) < μ 83 14 := by rw [← mv_f hn8]; exact fp_od_n hn8 (by decide) (by omega)
      have o1 : fp_od (fp_tf (mv μ)) (μ 83 14) 1 < μ 83 14 := fp_od_n hn8 (by decide) (by omega)
      have og : fp_g (mv μ) < μ 83 14 := by rw [← mv_g hn8]; exact fp_od_n hn8 (by omega) (by omega)
      have eP : fp_tf (mv μ) (fp_od (fp_tf (mv μ)) (μ 83 14) 1).toNat - fp_tf (mv μ) (fp_f (mv μ)).toNat = fp_gp (mv μ) := rfl
      have eQ := fp_rq_p hv1 (by rw [f4]; exact h4.2)
      refine am_go (ct := fun pc => Nat.beq pc 10) am_oX7_gapsByHabit 300 ?_
      conv => whnf
      repeat' first
        | (refine (?_ : am_wp _ _ _ _ _ _ _ _ _ _ _ _); conv => whnf)
        | (refine (?_ : am_sw _ _ _ _); conv => whnf)
        | refine And.intro trivial ?_
        | exact trivial
        | (refine (?_ : fp_rq _ _ _ _); (first | decide | assumption | omega | exact W3 | exact md_tr hv0 hG2 (fun _ _ q => q) | (rw [f12 83 16 (by decide) (by decide) (by decide) (by decide)]; exact hv6) | (intro b; rw [f12 92 b (by decide) (by decide) (by decide) (by omega)]; exact hv7 b) | (intro b; rw [f12 93 b (by decide) (by decide) (by decide) (by omega)]; exact hv8 b) | (rw [show (i + 1).toNat = i.toNat + 1 by omega]; have ei : ((i.toNat : Nat) : Int) = i := Int.toNat_of_nonneg hv2; simp only [fp_hS]; rw [ei]; exact R3) | (rw [show (i + 1).toNat = i.toNat + 1 by omega, hv4]; have ei : ((i.toNat : Nat) : Int) = i := Int.toNat_of_nonneg hv2; simp only [fp_hQ]; rw [ei, ← eQ]) | (rw [hv4, show i.toNat = n.toNat by (simp only [ci, cn] at *; first | done | omega)]) | (trace_state; fail)))
        | (refine (?_ : fp_fw _ _); (first | decide | assumption | omega | exact W3 | exact md_tr hv0 hG2 (fun _ _ q => q) | (rw [f12 83 16 (by decide) (by decide) (by decide) (by decide)]; exact hv6) | (intro b; rw [f12 92 b (by decide) (by decide) (by decide) (by omega)]; exact hv7 b) | (intro b; rw [f12 93 b (by decide) (by decide) (by decide) (by omega)]; exact hv8 b) | (rw [show (i + 1).toNat = i.toNat + 1 by omega]; have ei : ((i.toNat : Nat) : Int) = i := Int.toNat_of_nonneg hv2; simp only [fp_hS]; rw [ei]; exact R3) | (rw [show (i + 1).toNat = i.toNat + 1 by omega, hv4]; have ei : ((i.toNat : Nat) : Int) = i := Int.toNat_of_nonneg hv2; simp only [fp_hQ]; rw [ei, ← eQ]) | (rw [hv4, show i.toNat = n.toNat by (simp only [ci, cn] at *; first | done | omega)]) | (trace_state; fail)))
        | (refine x_takesTimes hf8 (fun μ1 f1 y2 t1 z1 => ?_); have w0 : μ1 100 0 = fp_f (mv μ) := (fp_od_o hn8 y2 0 (by omega)).trans (mv_f hn8); have w1 : μ1 100 1 = fp_od (fp_tf (mv μ)) (μ 83 14) 1 := (fp_od_o hn8 y2 1 (by omega)).trans (fp_od_t hn8 (fun i hi => mv_T hi)); have k4 : μ1 83 14 = μ 83 14 := f1 83 14 (by decide) (by decide); have wg : μ1 100 (μ1 83 14 - 1).toNat = fp_g (mv μ) := (by rw [k4, fp_od_o hn8 y2 _ (by omega), show (((μ 83 14 - 1).toNat : Nat) : Int) = μ 83 14 - 1 by omega]; exact mv_g hn8))
        | (refine n_gap (fp_f (mv μ)) (fp_od (fp_tf (mv μ)) (μ 83 14) 1) w0 w1 (by omega) (by omega) (by omega) (by omega) ?_; rw [t1 _ (by omega), t1 _ (by omega), mv_T (by omega), mv_T (by omega), eP])
        | (have k16 : μ1 83 16 = ν 83 16 := (f1 83 16 (by decide) (by decide)).trans hv6; refine n_hmend (fp_f (mv μ)) (fp_g (mv μ)) (fp_rt (ν 83 16) (ν 92)) (fp_rt (ν 83 16) (ν 93)) (by rw [k4]; omega) (by rw [k4]; exact hn8) w0 wg b0.1 b0.2 gb.1 gb.2 (by rw [k16]; exact m16.1) (by rw [k16]; exact m16.2) (fun b hb => by rw [k16] at hb; rw [f1 92 b (by decide) (by decide), hv7, fp_rt_i hb]) (fun b hb => by rw [k16] at hb; rw [f1 93 b (by decide) (by decide), hv8, fp_rt_i hb]) (fun b hb => hH2 b (by rw [k16] at hb; exact hb)) (fun b hb => hY2 b (by rw [k16] at hb; exact hb)) (fun b hb => by rw [f1 89 b (by decide) (by decide)]; exact hs8 b hb) (fun μ2 f2 s2 k2 => ?_); rw [k16, k4] at s2; have f12 : ∀ a b, a ≠ 89 → a ≠ 99 → a ≠ 100 → ¬(a = 83 ∧ b = 11) → μ2 a b = μ a b := (fun a b q1 q2 q3 q4 => (f2 a b q1 q4).trans (f1 a b q2 q3)); have j0 : ∀ b : Nat, b < 5 → b ≠ 1 → mv μ2 0 b = mv μ 0 b := (fun b hb q => by rw [mv_0 hb, mv_0 hb]; exact f12 83 (10 + b) (by decide) (by decide) (by decide) (by omega)); have j1 : mv μ2 0 1 = mv μ 0 1 + 1 := k2.trans (congrArg (fun z => z + 1) (f1 83 11 (by decide) (by decide))); have ja : ∀ a b : Nat, 0 < a → a < 5 → b < 4 → mv μ2 a b = mv μ a b := (fun a b q1 q2 q3 => by obtain ⟨a, rfl⟩ : ∃ e, a = e + 1 := ⟨a - 1, by omega⟩; rw [mv_a (by omega) q3, mv_a (by omega) q3]; exact f12 (85 + a) b (by omega) (by omega) (by omega) (by omega)); have j5 : ∀ b : Nat, b < 4 → mv μ2 5 b = fp_hb (fp_rt (ν 83 16) (ν 92)) (fp_rt (ν 83 16) (ν 93)) (fp_f (mv μ)) (fp_g (mv μ)) (mv μ 0 4) (ν 83 16).toNat (mv μ 5) b := (fun b hb => by rw [mv_5 hb, s2]; exact fp_hb_c (fun x hx => by rw [mv_5 hx]; exact f1 89 x (by decide) (by decide)) _ b hb); have R3 := fp_rq_s (w2 := mv ν 0 1 + (i + 1)) hv1 (by rw [f4]; exact h4.2) (by omega) j0 j1 ja j5; have W3 := fw_s5 (V := 999 + (i + 1)) hv5 (by omega) j0 j1 ja (fun b hb => by rw [j5 b hb]; exact fp_hb_b hv5.2.2.2.2.2.1 _ b hb); have hG2 : gm mM μ μ2 := gm_runs hmi (fun a b q1 q2 q3 q4 q5 => f12 a b q1 q4 q5 q3) (fun p hp => by rw [f2 100 p (by decide) (by omega)]; exact z1 (fun p hp => mi_or hmi p hp) p hp))
        | (refine m_come1 (fun μ3 u1 _ _ _ => ?_); have hG : gm mQ ν μ3 := md_back hv0 u1 (fun _ _ q => q))
        | refine kk _ _ hG ?_
        | (refine m_keep1 (fun μ1 u1 _ _ _ => ?_); have hD : MD mQ ν μ1 := md_start (gm_rf hm) u1; have p1 : mv μ1 = (mv ν) := mv_keep (fun a b q => u1.2 a b (by omega) (by omega)))
        | refine ih _ _ _ ?_ ?_ ?_ ?_ ?_ ?_ ?_ ?_ ?_ ?_
        | refine And.intro (fun h => absurd h (by decide)) (fun _ => ?_)
        | refine And.intro (fun _ => ?_) (fun h => absurd (by decide) h)
        | refine And.intro (fun _ => ?_) (fun _ => ?_)
        | refine And.intro ?_ ?_
      all_goals (first | decide | assumption | omega | exact W3 | exact md_tr hv0 hG2 (fun _ _ q => q) | (rw [f12 83 16 (by decide) (by decide) (by decide) (by decide)]; exact hv6) | (intro b; rw [f12 92 b (by decide) (by decide) (by decide) (by omega)]; exact hv7 b) | (intro b; rw [f12 93 b (by decide) (by decide) (by decide) (by omega)]; exact hv8 b) | (rw [show (i + 1).toNat = i.toNat + 1 by omega]; have ei : ((i.toNat : Nat) : Int) = i := Int.toNat_of_nonneg hv2; simp only [fp_hS]; rw [ei]; exact R3) | (rw [show (i + 1).toNat = i.toNat + 1 by omega, hv4]; have ei : ((i.toNat : Nat) : Int) = i := Int.toNat_of_nonneg hv2; simp only [fp_hQ]; rw [ei, ← eQ]) | (rw [hv4, show i.toNat = n.toNat by (simp only [ci, cn] at *; first | done | omega)]) | (trace_state; fail))
  have lp10' : ∀ (w i : Int) (μ : am_N) , MD mQ ν μ → fp_rq (mv μ) (mv ν) ((mv ν) 0 1 + i) (fp_hS (mv ν) (fp_rt (ν 83 16) (ν 92)) (fp_rt (ν 83 16) (ν 93)) (ν 83 16).toNat i.toNat) → 0 ≤ i → i ≤ n → w = fp_hQ (mv ν) (fp_rt (ν 83 16) (ν 92)) (fp_rt (ν 83 16) (ν 93)) (ν 83 16).toNat i.toNat → fp_fw (999 + i) (mv μ) → μ 83 16 = ν 83 16 → (∀ b, μ 92 b = ν 92 b) → (∀ b, μ 93 b = ν 93 b) → am_AW l 0 (fun _ => 0) 237 Q 10 [some (.inr (.inr 83)), some (.inl n), some (.inl w), some (.inl i)] [] μ := fun w i μ hv0 hv1 hv2 hv3 hv4 hv5 hv6 hv7 hv8 => lp10 ((n - i) + 1).toNat w i μ hv0 hv1 hv2 hv3 hv4 hv5 hv6 hv7 hv8 (by omega)
  refine am_go (ct := fun pc => Nat.beq pc 10) am_oX7_gapsByHabit 300 ?_
  conv => whnf
  repeat' first
    | (refine (?_ : am_wp _ _ _ _ _ _ _ _ _ _ _ _); conv => whnf)
    | (refine (?_ : am_sw _ _ _ _); conv => whnf)
    | refine And.intro trivial ?_
    | exact trivial
    | (refine (?_ : fp_rq _ _ _ _); (first | decide | assumption | omega | rfl | exact hD | (rw [p1, show (mv ν) 0 1 + 0 = (mv ν) 0 1 by omega]; exact fp_rq_rf (mv ν)) | (rw [p1, show (999 : Int) + 0 = 999 by omega]; exact hw) | exact u1.2 83 16 (by omega) (by omega) | (intro b; exact u1.2 _ b (by omega) (by omega)) | (trace_state; fail)))
    | (refine (?_ : fp_fw _ _); (first | decide | assumption | omega | rfl | exact hD | (rw [p1, show (mv ν) 0 1 + 0 = (mv ν) 0 1 by omega]; exact fp_rq_rf (mv ν)) | (rw [p1, show (999 : Int) + 0 = 999 by omega]; exact hw) | exact u1.2 83 16 (by omega) (by omega) | (intro b; exact u1.2 _ b (by omega) (by omega)) | (trace_state; fail)))
    | (refine m_keep1 (fun μ1 u1 _ _ _ => ?_); have hD : MD mQ ν μ1 := md_start (gm_rf hm) u1; have p1 : mv μ1 = (mv ν) := mv_keep (fun a b q => u1.2 a b (by omega) (by omega)))
    | refine lp10' _ _ _ ?_ ?_ ?_ ?_ ?_ ?_ ?_ ?_ ?_
    | refine And.intro (fun h => absurd h (by decide)) (fun _ => ?_)
    | refine And.intro (fun _ => ?_) (fun h => absurd (by decide) h)
    | refine And.intro (fun _ => ?_) (fun _ => ?_)
    | refine And.intro ?_ ?_
  all_goals (first | decide | assumption | omega | rfl | exact hD | (rw [p1, show (mv ν) 0 1 + 0 = (mv ν) 0 1 by omega]; exact fp_rq_rf (mv ν)) | (rw [p1, show (999 : Int) + 0 = 999 by omega]; exact hw) | exact u1.2 83 16 (by omega) (by omega) | (intro b; exact u1.2 _ b (by omega) (by omega)) | (trace_state; fail))
theorem n_tried {l : Launch} {ν : am_N} {Q : Option am_V → am_N → Prop} (n w : Int) (cn : am_c n = n) (cw : am_c w = w) (hm : mi ν) (hw : fp_fw 999 (mv ν)) (hH : ∀ b : Nat, (b : Int) < ν 83 16 → 0 ≤ ν 92 b ∧ ν 92 b ≤ 3) (hY : ∀ b : Nat, (b : Int) < ν 83 16 → -9 ≤ ν 93 b ∧ ν 93 b ≤ 9) (k : ∀ μ' : am_N, gm mQ ν μ' → Q (some (.inl (fp_tdr (mv ν) (fp_rt (ν 83 16) (ν 92)) (fp_rt (ν 83 16) (ν 93)) (ν 83 16) n w))) μ') : am_Does l 238 [.inr (.inr 83), .inl n, .inl w] ν Q := by
  refine am_Does_of (Nat.le_of_ble_eq_true rfl) (Nat.le_of_ble_eq_true rfl) (Nat.le_of_ble_eq_true rfl) ?_
  have l0 : am_c 0 = 0 := rfl
  have l1 : am_c 1 = 1 := rfl
  have l2 : am_c 2 = 2 := rfl
  have l3 : am_c 3 = 3 := rfl
  have l4 : am_c 4 = 4 := rfl
  have l60 : am_c 60 = 60 := rfl
  have m1' : am_c (-1) = -1 := rfl
  have m2' : am_c (-2) = -2 := rfl
  have m3' : am_c (-3) = -3 := rfl
  have m4' : am_c (-4) = -4 := rfl
  have m6' : am_c (-6) = -6 := rfl
  have m9' : am_c (-9) = -9 := rfl
  have hm0 := hm
  obtain ⟨hf, hru, -, -, -, -, hx⟩ := fw_M hw (by decide)
  have f0 := hf.1.1
  have f1 := hf.1.2
  have e4 : mv ν 0 4 = ν 83 14 := rfl
  have c14 : am_c (ν 83 14) = ν 83 14 := am_cR (by omega) (by omega)
  have hQ := fun (z0 : 0 ≤ n) (z1 : n ≤ 60) (z2 : 2 ≤ ν 83 14) => fp_hQ_b (H := (fp_rt (ν 83 16) (ν 92))) (Y := (fp_rt (ν 83 16) (ν 93))) (m := (ν 83 16).toNat) hw z2 n.toNat (by omega)
  have hGs := fun (z0 : 0 ≤ n) (z1 : n ≤ 60) (z2 : 2 ≤ ν 83 14) => fp_gs_b hw z2 n.toNat (by omega)
  have er : fp_ru2 (mv ν) (ν 83 12) = (mv ν) := fp_ru2_id (fp_mr ν)
  have kk := fun (x : Int) (μ' : am_N) (h : gm mQ ν μ') (e : x = fp_tdr (mv ν) (fp_rt (ν 83 16) (ν 92)) (fp_rt (ν 83 16) (ν 93)) (ν 83 16) n w) => am_qe (k μ' h) e
  refine am_go (ct := fun _ => false) am_oX7_tried 300 ?_
  conv => whnf
  repeat' first
    | (refine (?_ : am_wp _ _ _ _ _ _ _ _ _ _ _ _); conv => whnf)
    | (refine (?_ : am_sw _ _ _ _); conv => whnf)
    | refine And.intro trivial ?_
    | exact trivial
    | refine x_bound _ _ _ ?_ ?_ ?_ (fun _ => ?_) (fun _ => ?_) (fun _ _ => ?_)
    | refine x_isIn w _ _ _ rfl cw ?_ ?_ (fun _ _ => ?_) (fun _ => ?_)
    | refine x_no _ ?_ (fun μr fr => ?_)
    | (have h2 : 2 ≤ ν 83 14 := (by (simp only [c14, l2] at *; first | done | omega)); have hq := hQ (by omega) (by omega) h2; have hg := hGs (by omega) (by omega) h2; have cq : am_c (fp_hQ (mv ν) (fp_rt (ν 83 16) (ν 92)) (fp_rt (ν 83 16) (ν 93)) (ν 83 16).toNat n.toNat) = fp_hQ (mv ν) (fp_rt (ν 83 16) (ν 92)) (fp_rt (ν 83 16) (ν 93)) (ν 83 16).toNat n.toNat := am_cR (by omega) (by omega); have cg : am_c (fp_gs (mv ν) n.toNat) = fp_gs (mv ν) n.toNat := am_cR (by omega) (by omega); refine n_gapsH n cn hm0 hw (by omega) (by omega) h2 hH hY (fun μ1 h1 => ?_))
    | (have eF1 : mv μ1 = (mv ν) := mv_mQ h1.2; have e12 : μ1 83 12 = ν 83 12 := h1.2 83 12 rfl; refine n_gapsBy _ n cn h1.1 (by rw [eF1]; exact hw) (by rw [e12]; exact hru.1) (by rw [e12]; exact hru.2) (by omega) (by omega) (by rw [h1.2 83 14 rfl]; exact h2) (fun μ2 h2' => ?_); rw [eF1, e12, er])
    | refine kk _ _ (gm_tr h1 h2' (fun _ _ q => q)) ?_
    | refine kk _ _ h1 ?_
    | refine kk _ _ (gm_84 (fun _ => rfl) hm0 fr) ?_
    | refine And.intro (fun h => absurd h (by omega)) (fun _ => ?_)
    | refine And.intro (fun _ => ?_) (fun h => absurd h (by omega))
    | refine And.intro (fun h => absurd h (by decide)) (fun _ => ?_)
    | refine And.intro (fun _ => ?_) (fun h => absurd (by decide) h)
    | refine And.intro (fun _ => ?_) (fun _ => ?_)
    | refine And.intro ?_ ?_
  all_goals (first | decide | omega | (unfold fp_tdr; rw [e4, if_neg (by omega), if_neg (by omega), if_neg (by omega), if_neg (by (simp only [c14, l2] at *; first | done | omega))]; first | (rw [if_pos (by (simp only [cw, l0] at *; first | done | omega))]) | (rw [if_neg (by (simp only [cw, l0] at *; first | done | omega))]; first | (rw [if_pos (by (simp only [cq, cg] at *; first | done | omega))]) | (rw [if_neg (by (simp only [cq, cg] at *; first | done | omega))]))) | (unfold fp_tdr; rw [if_pos (by omega)]) | (unfold fp_tdr; rw [if_neg (by omega), if_pos (by omega)]) | (unfold fp_tdr; rw [if_neg (by omega), if_neg (by omega), if_pos (by omega)]) | (unfold fp_tdr; rw [e4, if_neg (by omega), if_neg (by omega), if_neg (by omega), if_pos (by (simp only [c14, l2] at *; first | done | omega))]) | (trace_state; fail))
