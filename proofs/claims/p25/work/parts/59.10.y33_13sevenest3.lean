theorem s_evenest3 {l : Launch} {ν : am_N} {Q : Option am_V → am_N → Prop} (st : Int) (m : Nat) (hw : fp_fw 999 (fv ν 1)) (m2 : 2 ≤ m) (m20 : m ≤ 20) (s0 : 0 ≤ st) (st1 : st ≤ 50) (s1 : ((m : Int) - 1) * st ≤ 99) (hn : ν 1 4 = 3) (k : ∀ μ' : am_N, (∀ a b, ¬(30 ≤ a ∧ a ≤ 32) → ¬(a = 29 ∧ b = 0) → ¬(80 ≤ a ∧ a ≤ 82) → μ' a b = ν a b) → μ' 29 0 = 3 → Q (some (.inl ((fp_sb3 (fv ν 1) st m 3 : Nat) : Int))) μ') : am_Does l 123 [.inr (.inr 0), .inl st, .inl (m : Int)] ν Q := by
  refine am_Does_of (Nat.le_of_ble_eq_true rfl) (Nat.le_of_ble_eq_true rfl) (Nat.le_of_ble_eq_true rfl) ?_
  refine am_go (ct := fun pc => Nat.beq pc 5) am_oX6_evenest 300 ?_
  conv => whnf
  repeat' first
    | (refine (?_ : am_wp _ _ _ _ _ _ _ _ _ _ _ _); conv => whnf)
    | refine And.intro trivial ?_
  refine s_evr0 st m 1 _ hw m2 m20 s0 st1 s1 (by rw [hn]; decide) (fun o0 μ1 f0 t0 => ?_)
  have eF1 : fv μ1 1 = (fv ν 1) := (fv_keep (fun a b q1 q2 => f0 a b (by omega)))
  have e14_1 : μ1 1 4 = 3 := (f0 1 4 (by decide)).trans hn
  refine s_evr1 st m (1 * (m : Int)) _ (by rw [eF1]; exact hw) m2 m20 s0 st1 s1 (by rw [e14_1]; decide) (fun o1 μ2 f1 t1 => ?_)
  have eF2 : fv μ2 1 = (fv ν 1) := (fv_keep (fun a b q1 q2 => f1 a b (by omega))).trans eF1
  rw [eF1] at t1
  have e14_2 : μ2 1 4 = 3 := (f1 1 4 (by decide)).trans e14_1
  refine s_evr2 st m ((1 * (m : Int)) * (m : Int)) _ (by rw [eF2]; exact hw) m2 m20 s0 st1 s1 (by rw [e14_2]; decide) (fun o2 μ3 f2 t2 => ?_)
  have eF3 : fv μ3 1 = (fv ν 1) := (fv_keep (fun a b q1 q2 => f2 a b (by omega))).trans eF2
  rw [eF2] at t2
  have e14_3 : μ3 1 4 = 3 := (f2 1 4 (by decide)).trans e14_2
  have hT : fp_TB μ3 (fv μ3 1) st m 3 := by
    rw [eF3]
    refine ⟨fun r h q1 q2 => ?_, fun r q => ?_⟩
    · rcases (show r = 0 ∨ r = 1 ∨ r = 2 by omega) with rfl | rfl | rfl
      · exact (f2 80 h (by decide).trans (f1 80 h (by decide))).trans (t0 h q2)
      · exact (f2 81 h (by decide)).trans (t1 h q2)
      · exact t2 h q2
    · exact ((f2 5 r (by omega)).trans ((f1 5 r (by omega)).trans ((f0 5 r (by omega))))).trans (fv_a (μ := ν) (c := 1) (a := 4) (by decide) (by decide) (by omega)).symm
  refine s_evx3 st m _ (by rw [eF3]; exact hw) m2 m20 s0 s1 e14_3 hT (fun μ9 f9 n9 => ?_)
  rw [eF3]
  exact k μ9 (fun a b q1 q2 q3 => (f9 a b q1 q2).trans ((f2 a b (by omega)).trans ((f1 a b (by omega)).trans ((f0 a b (by omega)))))) n9
