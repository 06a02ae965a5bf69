theorem lx_start : lx_I nw_μ := by
  refine ⟨⟨fun _ _ _ => rfl, fun p _ => ⟨Int.le_refl 0, by show (0 : Int) ≤ 3; decide⟩, fun p _ => ⟨Int.le_refl 0, by show (0 : Int) ≤ 3; decide⟩, ?_, ?_⟩, ?_, ⟨⟨?_, ?_⟩, ⟨rfl, fun _ => rfl, fun i hi => (by have z : nw_μ 36 1 = 0 := rfl; omega)⟩, rq_B_zero rfl rfl, Or.inl ⟨rfl, rfl⟩⟩⟩
  · unfold sx_4; decide
  · unfold px; decide
  · unfold mi
    refine ⟨by decide, by decide, by decide, by decide, by decide, by decide, by decide, by decide, by decide, by decide, fun p _ => ⟨Int.le_refl 0, by show (0 : Int) ≤ 3; decide⟩⟩
  · refine fp_ct_e (fun b hb => ?_) (fun a b q1 q2 hb => ?_)
    · rcases (show b = 0 ∨ b = 1 ∨ b = 2 ∨ b = 3 ∨ b = 4 by omega) with rfl | rfl | rfl | rfl | rfl <;> rfl
    · rcases (show a = 1 ∨ a = 2 ∨ a = 3 ∨ a = 4 ∨ a = 5 ∨ a = 6 by omega) with rfl | rfl | rfl | rfl | rfl | rfl <;> rfl
  · unfold fp_fw
    refine ⟨by decide, by decide, by decide, by decide, by decide, fun i hi => ?_, fun i hi => ?_⟩
    · rw [mv_5 hi]; exact ⟨Int.le_refl 0, by show (0 : Int) ≤ 99; decide⟩
    · have z : mv nw_μ 0 4 = 0 := rfl
      omega
