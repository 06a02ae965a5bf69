/-! contracts: the system's changes (weak): what stays, what is within bounds -/
def gv (E : List Nat) (ν μ : am_N) : Prop := sx μ μ ∧ ∀ k j, (sx_p k && !(E.contains k)) = true → μ k j = ν k j
def gv_q (k j : Nat) : Bool := (sx_q k j || sx_p k) && (!(Nat.beq k 1 && Nat.beq j 4) && (!(Nat.beq k 22 && Nat.beq j 4) && (!(Nat.beq k 36 && Nat.beq j 1) && (!(Nat.beq k 44 && Nat.beq j 1) && (!(Nat.beq k 46 && Nat.beq j 1) && (!(Nat.beq k 48 && Nat.beq j 1) && (!(Nat.beq k 50 && Nat.beq j 1) && (!(Nat.beq k 53 && Nat.beq j 1) && (!(Nat.beq k 55 && Nat.beq j 1) && (!(Nat.beq k 58 && Nat.beq j 1) && (!(Nat.beq k 60 && Nat.beq j 1) && !(Nat.beq k 62 && Nat.beq j 3))))))))))))
theorem sx_rb {ν μ : am_N} (h : sx ν μ) : sx μ μ := ⟨fun _ _ _ => rfl, h.2.1, h.2.2.1, h.2.2.2.1, sx_px h⟩
theorem gv_i {E : List Nat} {ν μ : am_N} (h : gv E ν μ) : sx μ μ := h.1
theorem gv_rf {E : List Nat} {μ : am_N} (h : sx μ μ) : gv E μ μ := ⟨h, fun _ _ _ => rfl⟩
theorem gv_sx {E : List Nat} {ν μ μ' : am_N} (h : gv E ν μ) (h2 : sx μ μ') : gv E ν μ' := ⟨sx_rb h2, fun k j hk => (h2.1 k j (am_bb hk).1).trans (h.2 k j hk)⟩
theorem gv_px {μ : am_N} {k j : Nat} {v : Int} (h : px μ) (hk : ∀ a b, (a, b) ∈ [(1, 4), (22, 4), (36, 1), (44, 1), (46, 1), (48, 1), (50, 1), (53, 1), (55, 1), (58, 1), (60, 1), (62, 3)] → (Nat.beq k a && Nat.beq j b) = false) : px (am_up μ k j v) := by
  have e : ∀ a b, (a, b) ∈ [(1, 4), (22, 4), (36, 1), (44, 1), (46, 1), (48, 1), (50, 1), (53, 1), (55, 1), (58, 1), (60, 1), (62, 3)] → am_up μ k j v a b = μ a b := fun a b q => by
    have q := hk a b q
    rw [am_upS, if_neg (fun z => by rw [z.1, z.2] at q; simp at q)]
  unfold px at h ⊢
  rw [e 1 4 (by decide), e 22 4 (by decide), e 36 1 (by decide), e 44 1 (by decide), e 46 1 (by decide), e 48 1 (by decide), e 50 1 (by decide), e 53 1 (by decide), e 55 1 (by decide), e 58 1 (by decide), e 60 1 (by decide), e 62 3 (by decide)]
  exact h
theorem gv_up {E : List Nat} {ν μ : am_N} {k j : Nat} {v : Int} (h : gv E ν μ) (hE : (E.contains k || !(sx_p k)) = true) (hk : gv_q k j = true) : gv E ν (am_up μ k j v) := by
  obtain ⟨q0, q1, q2, q3, q4, q5, q6, q7, q8, q9, q10, q11, q12⟩ : (sx_q k j || sx_p k) = true ∧ (Nat.beq k 1 && Nat.beq j 4) = false ∧ (Nat.beq k 22 && Nat.beq j 4) = false ∧ (Nat.beq k 36 && Nat.beq j 1) = false ∧ (Nat.beq k 44 && Nat.beq j 1) = false ∧ (Nat.beq k 46 && Nat.beq j 1) = false ∧ (Nat.beq k 48 && Nat.beq j 1) = false ∧ (Nat.beq k 50 && Nat.beq j 1) = false ∧ (Nat.beq k 53 && Nat.beq j 1) = false ∧ (Nat.beq k 55 && Nat.beq j 1) = false ∧ (Nat.beq k 58 && Nat.beq j 1) = false ∧ (Nat.beq k 60 && Nat.beq j 1) = false ∧ (Nat.beq k 62 && Nat.beq j 3) = false := by
    simpa only [gv_q, Bool.and_eq_true, Bool.not_eq_true'] using hk
  have hpx : px (am_up μ k j v) := gv_px h.1.2.2.2.2 (fun a b hab => by
    simp only [List.mem_cons, Prod.mk.injEq, List.not_mem_nil, or_false] at hab
    rcases hab with ⟨rfl, rfl⟩ | ⟨rfl, rfl⟩ | ⟨rfl, rfl⟩ | ⟨rfl, rfl⟩ | ⟨rfl, rfl⟩ | ⟨rfl, rfl⟩ | ⟨rfl, rfl⟩ | ⟨rfl, rfl⟩ | ⟨rfl, rfl⟩ | ⟨rfl, rfl⟩ | ⟨rfl, rfl⟩ | ⟨rfl, rfl⟩ <;> assumption)
  refine ⟨?_, fun a b hab => ?_⟩
  · rcases Bool.or_eq_true_iff.mp q0 with q | q
    · exact sx_rb (sx_up h.1 q)
    · have ne : ∀ c, sx_p c = false → k ≠ c := fun c hc z => by rw [z, hc] at q; cases q
      have nb : ∀ c d, sx_p c = false → (Nat.beq k c && Nat.beq j d) = false := fun c d hc => by
        cases hb : Nat.beq k c with
        | false => rfl
        | true => exact absurd (Nat.eq_of_beq_eq_true hb) (ne c hc)
      exact ⟨fun _ _ _ => rfl, sx_3N h.1.2.1 (ne 34 rfl), sx_3N h.1.2.2.1 (ne 43 rfl), sx_4N h.1.2.2.2.1 (nb 8 4 rfl) (nb 15 4 rfl) (nb 29 0 rfl) (nb 38 0 rfl), hpx⟩
  · rw [am_upN (fun z => by
      subst z
      have h1 := (am_bb hab).1
      have h2 := (am_bb hab).2
      rw [h1] at hE
      simp only [Bool.not_true, Bool.or_false] at hE
      rw [hE] at h2
      cases h2)]
    exact h.2 a b hab
