/-! shared -/
theorem fp_cr_0 {L N H : Nat → Int} {m t s u r : Int} (hm : m = 2) (a0 : L 0 = fp_pt t s 0) (a1 : N 0 = t) (a2 : H 0 = t + s) (b0 : L 1 = fp_pt u r 0) (b1 : N 1 = u) (b2 : H 1 = u + r) : fp_wy L N H m.toNat 0 = fp_aw 0 t s u r := by
  rw [hm]
  show fp_wy L N H 2 0 = _
  rw [fp_wy_20, a0, a1, a2, b0, b1, b2]
  unfold fp_aw
  simp only [Int.add_zero]
theorem fp_cr_1 {L N H : Nat → Int} {m t s u r : Int} (hm : m = 2) (a0 : L 1 = fp_pt t s 0) (a1 : N 1 = t) (a2 : H 1 = t + s) (b0 : L 0 = fp_pt u r 0) (b1 : N 0 = u) (b2 : H 0 = u + r) : fp_wy L N H m.toNat 1 = fp_aw 1 t s u r := by
  rw [hm]
  show fp_wy L N H 2 1 = _
  rw [fp_wy_21, a0, a1, a2, b0, b1, b2]
  rfl
theorem fp_cr_b {L N H : Nat → Int} {m t s u r : Int} (hm : m = 2) (t0 : 1 ≤ t) (t1 : t ≤ 100000) (s0 : 0 ≤ s) (s1 : s ≤ 20) (u0 : 1 ≤ u) (u1 : u ≤ 100000) (r0 : 0 ≤ r) (r1 : r ≤ 20) (a0 : L 0 = fp_pt t s 0) (a1 : N 0 = t) (a2 : H 0 = t + s) (b0 : L 1 = fp_pt u r 0) (b1 : N 1 = u) (b2 : H 1 = u + r) : ∀ j : Nat, (j : Int) < m → (0 ≤ L j ∧ L j ≤ 200000) ∧ (0 ≤ N j ∧ N j ≤ 200000) ∧ (0 ≤ H j ∧ H j ≤ 200000) := fun j hj => by
  have x := fp_pt_b (t := t) (s := s) (q := 0) t0 t1 s0 s1
  have y := fp_pt_b (t := u) (s := r) (q := 0) u0 u1 r0 r1
  rcases (show j = 0 ∨ j = 1 by rw [hm] at hj; omega) with rfl | rfl
  · rw [a0, a1, a2]; omega
  · rw [b0, b1, b2]; omega
/-- a field with another WEEK, other STARTS -/
def fp_wks (F : am_N) (w : Int) (s : Nat → Int) : am_N := fun a b => if a = 5 then s b else if a = 0 ∧ b = 1 then w else F a b
/-- a picture that shows this WEEK, these STARTS (RULE and WINS may be others) -/
def fp_rq (G F : am_N) (w : Int) (s : Nat → Int) : Prop := (∀ b : Nat, b < 5 → b ≠ 1 → b ≠ 2 → G 0 b = F 0 b) ∧ G 0 1 = w ∧ (∀ a b : Nat, 0 < a → a < 5 → b < 4 → G a b = F a b) ∧ ∀ b : Nat, b < 4 → G 5 b = s b
theorem fp_rq_t {G F : am_N} {w : Int} {s : Nat → Int} (h : fp_rq G F w s) {i : Nat} (hi : i < 4) : fp_tf G i = fp_tf (fp_wks F w s) i := by
  obtain ⟨h0, h1, h2, h3⟩ := h
  unfold fp_tf am_TC
  rw [h0 0 (by decide) (by decide) (by decide), h1, h2 (0 + 1) i (by decide) (by decide) hi, h2 (0 + 2) i (by decide) (by decide) hi, h2 (0 + 3) i (by decide) (by decide) hi, h3 i hi]
  rfl
theorem fw_s5 {W V : Int} {G G2 : am_N} (h : fp_fw W G) (hV : W + 1 ≤ V) (e0 : ∀ b : Nat, b < 5 → b ≠ 1 → G2 0 b = G 0 b) (e1 : G2 0 1 = G 0 1 + 1) (ea : ∀ a b : Nat, 0 < a → a < 5 → b < 4 → G2 a b = G a b) (b5 : ∀ b : Nat, b < 4 → 0 ≤ G2 5 b ∧ G2 5 b ≤ 99) : fp_fw V G2 := by
  obtain ⟨h0, h1, h2, h3, h4, h5, h6⟩ := h
  unfold fp_fw
  rw [e0 0 (by decide) (by decide), e0 2 (by decide) (by decide), e0 3 (by decide) (by decide), e0 4 (by decide) (by decide), e1]
  refine ⟨h0, by omega, h2, h3, h4, b5, fun i hi => ?_⟩
  rw [ea 1 i (by decide) (by decide) (by omega), ea 2 i (by decide) (by decide) (by omega), ea 3 i (by decide) (by decide) (by omega), ea 4 i (by decide) (by decide) (by omega)]
  exact h6 i hi
theorem fp_rq_rf (F : am_N) : fp_rq F F (F 0 1) (F 5) := ⟨fun _ _ _ _ => rfl, rfl, fun _ _ _ _ _ => rfl, fun _ _ => rfl⟩
def fp_gz (t : Nat → Int) (n : Int) : Int := if 1 < n then t (fp_od t n 1).toNat - t (fp_od t n 0).toNat else 0
theorem sx_sd {ν μ : am_N} (hS : sx ν ν) (f : ∀ a b, ¬(8 ≤ a ∧ a < 22) → ¬(30 ≤ a ∧ a ≤ 34) → ¬(a = 29 ∧ b = 0) → a ≠ 78 → μ a b = ν a b) (h34 : sx_3 μ 34) (h8 : 0 ≤ μ 8 4 ∧ μ 8 4 ≤ 4) (h15 : 0 ≤ μ 15 4 ∧ μ 15 4 ≤ 4) (h29 : 0 ≤ μ 29 0 ∧ μ 29 0 ≤ 4) : sx ν μ := by
  have p : ∀ a, sx_p a = true → ¬(8 ≤ a ∧ a < 22) ∧ ¬(30 ≤ a ∧ a ≤ 34) ∧ a ≠ 29 ∧ a ≠ 78 := fun a ha => by
    refine ⟨fun y => ?_, fun y => sx_p30 ha (by omega), fun y => sx_p30 ha (by omega), fun y => ?_⟩
    · rcases (show a = 8 ∨ a = 9 ∨ a = 10 ∨ a = 11 ∨ a = 12 ∨ a = 13 ∨ a = 14 ∨ (15 ≤ a ∧ a < 22) by omega) with rfl | rfl | rfl | rfl | rfl | rfl | rfl | x
      all_goals first | cases ha | exact sx_p15 ha x
    · rw [y] at ha; cases ha
  refine ⟨fun a b ha => f a b (p a ha).1 (p a ha).2.1 (fun x => (p a ha).2.2.1 x.1) (p a ha).2.2.2, h34, fun q hq => ?_, ⟨h8, h15, h29, ?_⟩, hS.2.2.2.2⟩
  · rw [f 43 q (by omega) (by omega) (by omega) (by omega)]; exact hS.2.2.1 q hq
  · rw [f 38 0 (by omega) (by omega) (by omega) (by omega)]; exact hS.2.2.2.1.2.2.2
theorem s_gapZ {l : Launch} {ν : am_N} {Q : Option am_V → am_N → Prop} (n0 : 1 ≤ ν 29 0) (n4 : ν 29 0 ≤ 4) (eo : am_isord ν 34 (ν 33) (ν 29 0)) (k : Q (some (.inl (fp_gz (ν 33) (ν 29 0)))) ν) : am_Does l 39 [.inr (.inr 29)] ν Q := by
  refine am_Does_of (Nat.le_of_ble_eq_true rfl) (Nat.le_of_ble_eq_true rfl) (Nat.le_of_ble_eq_true rfl) ?_
  have l0 : am_c 0 = 0 := rfl
  have l1 : am_c 1 = 1 := rfl
  have l2 : am_c 2 = 2 := rfl
  have l3 : am_c 3 = 3 := rfl
  have l4 : am_c 4 = 4 := rfl
  have l20 : am_c 20 = 20 := rfl
  have cn : am_c (ν 29 0) = ν 29 0 := am_cR (by omega) (by omega)
  have b0 := fp_od_b (ν 33) (ν 29 0) 0
  have b1 := fp_od_b (ν 33) (ν 29 0) 1
  have w0 : ν 34 (am_c 0).toNat = fp_od (ν 33) (ν 29 0) 0 := fp_od_o n4 eo 0 (by omega)
  have w1 := fun z : 1 < ν 29 0 => (show ν 34 (am_c 1).toNat = fp_od (ν 33) (ν 29 0) 1 from fp_od_o n4 eo 1 (by omega))
  have c0 : am_c (fp_od (ν 33) (ν 29 0) 0) = fp_od (ν 33) (ν 29 0) 0 := am_cR (by omega) (by omega)
  have c1 : am_c (fp_od (ν 33) (ν 29 0) 1) = fp_od (ν 33) (ν 29 0) 1 := am_cR (by omega) (by omega)
  refine am_go (ct := fun _ => false) am_oX2_gap 300 ?_
  conv => whnf
  repeat' first
    | (refine (?_ : am_wp _ _ _ _ _ _ _ _ _ _ _ _); conv => whnf)
    | (refine (?_ : am_sw _ _ _ _); conv => whnf)
    | refine And.intro trivial ?_
    | exact trivial
    | (refine am_qe k ?_)
    | refine And.intro (fun h => absurd h (by decide)) (fun _ => ?_)
    | refine And.intro (fun _ => ?_) (fun h => absurd (by decide) h)
    | refine And.intro (fun _ => ?_) (fun _ => ?_)
    | refine And.intro ?_ ?_
  all_goals (first | decide | omega | (have z : 1 < ν 29 0 := (by (simp only [cn, l1] at *; first | done | omega)); (first | have w1 := w1 z | skip); first | (rw [w1, c1]; omega) | (rw [w0, c0]; omega) | (rw [w0, w1, c0, c1]; unfold fp_gz; rw [if_pos z])) | (unfold fp_gz; rw [if_neg (by (simp only [cn, l1] at *; first | done | omega))]) | (trace_state; fail))
/-- UNEVEN is no less than 0 -/
theorem fp_ui_x {f : Nat → Int} {g : Int} : ∀ n : Nat, 1 ≤ n → fp_ui g f n ≤ fp_ux f n ∨ fp_ui g f n ≤ f 0 := by
  intro n h
  right
  induction n with
  | zero => exact absurd h (by omega)
  | succ n ih =>
    simp only [fp_ui]
    by_cases d : 1 ≤ n
    · have q := ih d
      split <;> omega
    · have z0 : n = 0 := by omega
      subst z0
      show (if f 0 < g then f 0 else g) ≤ f 0
      by_cases z : f 0 < g
      · rw [if_pos z]; first | done | exact Int.le_refl _
      · rw [if_neg z]; omega
theorem fp_ux_x {f : Nat → Int} : ∀ n : Nat, 1 ≤ n → f 0 ≤ fp_ux f n := by
  intro n h
  induction n with
  | zero => exact absurd h (by omega)
  | succ n ih =>
    simp only [fp_ux]
    by_cases d : 1 ≤ n
    · have q := ih d
      split <;> omega
    · have z0 : n = 0 := by omega
      subst z0
      show f 0 ≤ if 0 < f 0 then f 0 else 0
      by_cases z : 0 < f 0
      · rw [if_pos z]; first | done | exact Int.le_refl _
      · rw [if_neg z]; omega
theorem fp_un_0 {F : am_N} (h : 1 ≤ F 0 4) : 0 ≤ fp_un F := by
  have a := fp_ui_x (f := fp_lw F) (g := fp_al2 F) (F 0 4).toNat (by omega)
  have b := fp_ux_x (f := fp_lw F) (F 0 4).toNat (by omega)
  unfold fp_un
  omega
