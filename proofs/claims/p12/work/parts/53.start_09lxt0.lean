theorem lx_t0 {u2 v2 : Nat → ClassId} {k : Nat} (h : lx_L.any (fun p => Nat.beq p.1 k && !p.2) = true) : ∃ t0 : Nat, (nkX6 u2 ++ nkX7 v2)[t0]? = some (lx_ca u2 v2 k, FieldType.int) := by
  obtain ⟨⟨a, c⟩, hp, hq⟩ := List.any_eq_true.mp h
  obtain ⟨t0, ht⟩ := List.getElem?_of_mem hp
  refine ⟨t0, ?_⟩
  rw [Bool.and_eq_true] at hq
  have e : a = k := Nat.eq_of_beq_eq_true hq.1
  subst e
  cases c with
  | true => exact absurd (show (!true) = true from hq.2) (by decide)
  | false => rw [lx_Le, List.getElem?_map, ht]; rfl
