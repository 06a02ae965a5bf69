theorem s_evenest2 {l : Launch} {ν : am_N} {Q : Option am_V → am_N → Prop} (st : Int) (m : Nat) (hw : fp_fw 999 (fv ν 1)) (m2 : 2 ≤ m) (m20 : m ≤ 20) (s0 : 0 ≤ st) (st1 : st ≤ 50) (s1 : ((m : Int) - 1) * st ≤ 99) (hn : ν 1 4 = 2) (k : ∀ μ' : am_N, (∀ a b, ¬(30 ≤ a ∧ a ≤ 32) → ¬(a = 29 ∧ b = 0) → ¬(80 ≤ a ∧ a ≤ 82) → μ' a b = ν a b) → μ' 29 0 = 2 → Q (some (.inl ((fp_sb3 (fv ν 1) st m 2 : Nat) : Int))) μ') : am_Does l 123 [.inr (.inr 0), .inl st, .inl (m : Int)] ν Q := by
  refine am_Does_of (Nat.le_of_ble_eq_true rfl) (Nat.le_of_ble_eq_true rfl) (Nat.le_of_ble_eq_true rfl) ?_
  refine am_go (ct := fun pc => Nat.beq pc 5) am_oX6_evenest 300 ?_
  conv => whnf
  repeat' first
    | (refine (?_ : am_wp _ _ _ _ _ _ _ _ _ _ _ _); conv => whnf)
    | refine And.intro trivial ?_
  refine s_evr0 st m 1 _ hw m2 m20 s0 st1 s1 (by rw [hn]; decide) (fun o0 μ1 f0 t0 => ?_)
  have eF1 : fv μ1 1 = (fv ν 1) := (fv_keep (fun a b q1 q2 => f0 a b (by omega)))
  have e14_1 : μ1 1 4 = 2 := (f0 1 4 (by decide)).trans hn
  refine s_evr1 st m (1 * (m : Int)) _ (by rw [eF1]; exact hw) m2 m20 s0 st1 s1 (by rw [e14_1]; decide) (fun o1 μ2 f1 t1 => ?_)
  have eF2 : fv μ2 1 = (fv ν 1) := (fv_keep (fun a b q1 q2 => f1 a b (by omega))).trans eF1
  rw [eF1] at t1
  have e14_2 : μ2 1 4 = 2 := (f1 1 4 (by decide)).trans e14_1
  have hT : fp_TB μ2 (fv μ2 1) st m 2 := by
    rw [eF2]
    refine ⟨fun r h q1 q2 => ?_, fun r q => ?_⟩
    · rcases (show r = 0 ∨ r = 1 by omega) with rfl | rfl
      · exact (f1 80 h (by decide)).trans (t0 h q2)
      · exact t1 h q2
    · exact ((f1 5 r (by omega)).trans ((f0 5 r (by omega)))).trans (fv_a (μ := ν) (c := 1) (a := 4) (by decide) (by decide) (by omega)).symm
  refine s_evx2 st m _ (by rw [eF2]; exact hw) m2 m20 s0 s1 e14_2 hT (fun μ9 f9 n9 => ?_)
  rw [eF2]
  exact k μ9 (fun a b q1 q2 q3 => (f9 a b q1 q2).trans ((f1 a b (by omega)).trans ((f0 a b (by omega))))) n9
