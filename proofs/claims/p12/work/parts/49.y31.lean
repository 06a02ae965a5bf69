/-! races by seeds -/
def fp_gz (t : Nat → Int) (n : Int) : Int := if 1 < n then t (fp_od t n 1).toNat - t (fp_od t n 0).toNat else 0
theorem sx_sd {ν μ : am_N} (hS : sx ν ν) (f : ∀ a b, ¬(8 ≤ a ∧ a < 22) → ¬(30 ≤ a ∧ a ≤ 34) → ¬(a = 29 ∧ b = 0) → a ≠ 78 → μ a b = ν a b) (h34 : sx_3 μ 34) (h8 : 0 ≤ μ 8 4 ∧ μ 8 4 ≤ 4) (h15 : 0 ≤ μ 15 4 ∧ μ 15 4 ≤ 4) (h29 : 0 ≤ μ 29 0 ∧ μ 29 0 ≤ 4) : sx ν μ := by
  have p : ∀ a, sx_p a = true → ¬(8 ≤ a ∧ a < 22) ∧ ¬(30 ≤ a ∧ a ≤ 34) ∧ a ≠ 29 ∧ a ≠ 78 := fun a ha => by
    refine ⟨fun y => ?_, fun y => sx_p30 ha (by omega), fun y => sx_p30 ha (by omega), fun y => ?_⟩
    · rcases (show a = 8 ∨ a = 9 ∨ a = 10 ∨ a = 11 ∨ a = 12 ∨ a = 13 ∨ a = 14 ∨ (15 ≤ a ∧ a < 22) by omega) with rfl | rfl | rfl | rfl | rfl | rfl | rfl | x
      all_goals first | cases ha | exact sx_p15 ha x
    · rw [y] at ha; cases ha
  refine ⟨fun a b ha => f a b (p a ha).1 (p a ha).2.1 (fun x => (p a ha).2.2.1 x.1) (p a ha).2.2.2, h34, fun q hq => ?_, ⟨h8, h15, h29, ?_⟩, hS.2.2.2.2⟩
  · rw [f 43 q (by omega) (by omega) (by omega) (by omega)]; exact hS.2.2.1 q hq
  · rw [f 38 0 (by omega) (by omega) (by omega) (by omega)]; exact hS.2.2.2.1.2.2.2
theorem s_gapZ {l : Launch} {ν : am_N} {Q : Option am_V → am_N → Prop} (n0 : 1 ≤ ν 29 0) (n4 : ν 29 0 ≤ 4) (eo : am_isord ν 34 (ν 33) (ν 29 0)) (k : Q (some (.inl (fp_gz (ν 33) (ν 29 0)))) ν) : am_Does l 39 [.inr (.inr 29)] ν Q := by
  refine am_Does_of (Nat.le_of_ble_eq_true rfl) (Nat.le_of_ble_eq_true rfl) (Nat.le_of_ble_eq_true rfl) ?_
  have l0 : am_c 0 = 0 := rfl
  have l1 : am_c 1 = 1 := rfl
  have l2 : am_c 2 = 2 := rfl
  have l3 : am_c 3 = 3 := rfl
  have l4 : am_c 4 = 4 := rfl
  have l20 : am_c 20 = 20 := rfl
  have cn : am_c (ν 29 0) = ν 29 0 := am_cR (by omega) (by omega)
  have b0 := fp_od_b (ν 33) (ν 29 0) 0
  have b1 := fp_od_b (ν 33) (ν 29 0) 1
  have w0 : ν 34 (am_c 0).toNat = fp_od (ν 33) (ν 29 0) 0 := fp_od_o n4 eo 0 (by omega)
  have w1 := fun z : 1 < ν 29 0 => (show ν 34 (am_c 1).toNat = fp_od (ν 33) (ν 29 0) 1 from fp_od_o n4 eo 1 (by omega))
  have c0 : am_c (fp_od (ν 33) (ν 29 0) 0) = fp_od (ν 33) (ν 29 0) 0 := am_cR (by omega) (by omega)
  have c1 : am_c (fp_od (ν 33) (ν 29 0) 1) = fp_od (ν 33) (ν 29 0) 1 := am_cR (by omega) (by omega)
  refine am_go (ct := fun _ => false) am_oX2_gap 300 ?_
  conv => whnf
  repeat' first
    | (refine (?_ : am_wp _ _ _ _ _ _ _ _ _ _ _ _); conv => whnf)
    | (refine (?_ : am_sw _ _ _ _); conv => whnf)
    | refine And.intro trivial ?_
    | exact trivial
    | (refine am_qe k ?_)
    | refine And.intro (fun h => absurd h (by decide)) (fun _ => ?_)
    | refine And.intro (fun _ => ?_) (fun h => absurd (by decide) h)
    | refine And.intro (fun _ => ?_) (fun _ => ?_)
    | refine And.intro ?_ ?_
  all_goals (first | decide | omega | (have z : 1 < ν 29 0 := (by (simp only [cn, l1] at *; first | done | omega)); (first | have w1 := w1 z | skip); first | (rw [w1, c1]; omega) | (rw [w0, c0]; omega) | (rw [w0, w1, c0, c1]; unfold fp_gz; rw [if_pos z])) | (unfold fp_gz; rw [if_neg (by (simp only [cn, l1] at *; first | done | omega))]) | (trace_state; fail))
