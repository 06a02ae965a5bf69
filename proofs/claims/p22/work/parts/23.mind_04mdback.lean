theorem mM_98 {j : Nat} : mM 98 j = false := rfl
theorem mQ_98 {j : Nat} (h : mQ 98 j = false) : j < 60 := by
  rcases Nat.lt_or_ge j 60 with q | q
  · exact q
  · have e := Nat.ble_eq.mpr q
    simp only [mo, mQ1, Bool.or_eq_false_iff, Bool.and_eq_false_iff] at h
    rcases h.2.1 with h | h
    · cases h
    · rw [e] at h; cases h
theorem mQ_26 {p q : Nat} (h : mQ p q = false) : ¬ (p = 83 ∧ (q = 26 ∨ q = 27)) := fun z => by
  obtain ⟨rfl, rfl | rfl⟩ := z <;> cases h
/-- races in mind: all was kept, then only what may change did -/
def MD (A : Nat → Nat → Bool) (ν μ : am_N) : Prop := ∃ μ0 μ1, gm A ν μ0 ∧ (mi μ1 ∧ KPs 60 μ0 μ1) ∧ gm mM μ1 μ
theorem KPs_mi {ν μ : am_N} (h : mi ν) (hk : KPs 60 ν μ) : mi μ := by
  have e : ∀ p q, ¬ (p = 98 ∧ 60 ≤ q ∧ q < 60 + 45) → ¬ (p = 83 ∧ (q = 26 ∨ q = 27)) → μ p q = ν p q := hk.2
  unfold mi at h ⊢
  rw [e 83 14 (by omega) (by omega), e 83 15 (by omega) (by omega), e 83 16 (by omega) (by omega), e 83 21 (by omega) (by omega), e 83 33 (by omega) (by omega), e 83 40 (by omega) (by omega), e 83 42 (by omega) (by omega), e 98 44 (by omega) (by omega), e 98 38 (by omega) (by omega), e 98 39 (by omega) (by omega)]
  refine ⟨h.1, h.2.1, h.2.2.1, h.2.2.2.1, h.2.2.2.2.1, h.2.2.2.2.2.1, h.2.2.2.2.2.2.1, h.2.2.2.2.2.2.2.1, h.2.2.2.2.2.2.2.2.1, h.2.2.2.2.2.2.2.2.2.1, fun p hp => ?_⟩
  rw [e 100 p (by omega) (by omega)]
  exact h.2.2.2.2.2.2.2.2.2.2 p hp
theorem md_start {A : Nat → Nat → Bool} {ν μ μ' : am_N} (h : gm A ν μ) (hk : KPs 60 μ μ') : MD A ν μ' := ⟨μ, μ', h, ⟨KPs_mi h.1 hk, hk⟩, gm_rf (KPs_mi h.1 hk)⟩
theorem md_i {A : Nat → Nat → Bool} {ν μ : am_N} (h : MD A ν μ) : mi μ := by
  obtain ⟨_, _, _, _, h⟩ := h
  exact h.1
theorem md_tr {A B : Nat → Nat → Bool} {ν μ μ' : am_N} (h : MD A ν μ) (h2 : gm B μ μ') (hs : ∀ k j, mM k j = false → B k j = false) : MD A ν μ' := by
  obtain ⟨a, b, h3, h4, h5⟩ := h
  exact ⟨a, b, h3, h4, gm_tr h5 h2 hs⟩
theorem md_up {A : Nat → Nat → Bool} {ν μ : am_N} {k j : Nat} {v : Int} (h : MD A ν μ) (hA : mM k j = true) (hk : mi_b k j = false) : MD A ν (am_up μ k j v) := by
  obtain ⟨a, b, h3, h4, h5⟩ := h
  exact ⟨a, b, h3, h4, gm_up h5 hA hk⟩
theorem md_back {A : Nat → Nat → Bool} {ν μ μ' : am_N} (h : MD A ν μ) (hk : KPl 60 μ μ') (h1 : ∀ k j, A k j = false → mQ k j = false) : gm A ν μ' := by
  obtain ⟨a, b, h3, ⟨h40, h4⟩, h5⟩ := h
  have kb : ∀ k j o, kp_at k j = some o → μ' k j = a k j := fun k j o ho => by
    rw [hk.1 k j o ho, h5.2 98 (60 + o) mM_98, h4.1 k j o ho]
  have ko : ∀ p q, kp_at p q = none → ¬ (p = 83 ∧ (q = 26 ∨ q = 27)) → μ' p q = μ p q := hk.2
  have hm := h3.1
  have hn := h5.1
  refine ⟨?_, fun k j hkj => ?_⟩
  · unfold mi at hm hn ⊢
    rw [kb 83 14 44 rfl, kb 83 15 38 rfl, kb 83 16 39 rfl, ko 83 21 rfl (by omega), ko 83 33 rfl (by omega), ko 83 40 rfl (by omega), ko 83 42 rfl (by omega), ko 98 44 rfl (by omega), ko 98 38 rfl (by omega), ko 98 39 rfl (by omega)]
    refine ⟨hm.1, hm.2.1, hm.2.2.1, hn.2.2.2.1, hn.2.2.2.2.1, hn.2.2.2.2.2.1, hn.2.2.2.2.2.2.1, hn.2.2.2.2.2.2.2.1, hn.2.2.2.2.2.2.2.2.1, hn.2.2.2.2.2.2.2.2.2.1, fun p hp => ?_⟩
    rw [ko 100 p (by unfold kp_at; rw [if_neg (by omega), if_neg (by omega), if_neg (by omega), if_neg (by omega), if_neg (by omega), if_neg (by omega)]) (by omega)]
    exact hn.2.2.2.2.2.2.2.2.2.2 p hp
  · have q := h1 k j hkj
    cases ho : kp_at k j with
    | some o => exact (kb k j o ho).trans (h3.2 k j hkj)
    | none =>
      rw [ko k j ho (mQ_26 q)]
      have hM : mM k j = false := by
        cases hb : mM k j with
        | false => rfl
        | true =>
          obtain ⟨o, e⟩ := mM_ok hb q
          rw [ho] at e
          cases e
      rw [h5.2 k j hM, h4.2 k j ?_ (mQ_26 q)]
      · exact h3.2 k j hkj
      · rintro ⟨rfl, z1, z2⟩
        have := mQ_98 q
        omega
