theorem lx_ty (u2 v2 : Nat → ClassId) : am_TY (lx_ca u2 v2) (nkX6 u2 ++ nkX7 v2) := fun k q h => by
  have hk : k < am_sh.length := by
    by_cases z : k < am_sh.length
    · exact z
    · rw [List.getElem?_eq_none (by omega)] at h
      cases h
  have t := List.all_eq_true.mp lx_tka k (List.mem_range.mpr hk)
  unfold lx_tk at t
  rw [h] at t
  have t : ((!(Nat.beq q.1 0) || lx_L.any (fun p => Nat.beq p.1 k && !p.2)) && (!(Nat.beq q.1 1) || lx_L.any (fun p => Nat.beq p.1 k && p.2))) = true := t
  rw [Bool.and_eq_true] at t
  refine ⟨fun z => ?_, fun z => ?_⟩
  · rcases Bool.or_eq_true_iff.mp t.1 with w | w
    · rw [z] at w
      exact absurd w (by decide)
    · exact lx_t0 w
  · rcases Bool.or_eq_true_iff.mp t.2 with w | w
    · rw [z] at w
      exact absurd w (by decide)
    · exact lx_t1 w
