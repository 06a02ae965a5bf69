theorem md_back {A : Nat → Nat → Bool} {ν μ μ' : am_N} (h : MD A ν μ) (hk : KPl 60 μ μ') (h1 : ∀ k j, A k j = false → mQ k j = false) : gm A ν μ' := by
  obtain ⟨a, b, h3, ⟨h40, h4⟩, h5⟩ := h
  have kb : ∀ k j o, kp_at k j = some o → μ' k j = a k j := fun k j o ho => by
    rw [hk.1 k j o ho, h5.2 98 (60 + o) mM_98, h4.1 k j o ho]
  have ko : ∀ p q, kp_at p q = none → ¬ (p = 83 ∧ (q = 26 ∨ q = 27)) → μ' p q = μ p q := hk.2
  have hm := h3.1
  have hn := h5.1
  refine ⟨?_, fun k j hkj => ?_⟩
  · unfold mi at hm hn ⊢
    rw [kb 83 14 44 rfl, kb 83 15 38 rfl, kb 83 16 39 rfl, ko 83 21 rfl (by omega), ko 83 33 rfl (by omega), ko 83 40 rfl (by omega), ko 83 42 rfl (by omega), ko 98 44 rfl (by omega), ko 98 38 rfl (by omega), ko 98 39 rfl (by omega)]
    refine ⟨hm.1, hm.2.1, hm.2.2.1, hn.2.2.2.1, hn.2.2.2.2.1, hn.2.2.2.2.2.1, hn.2.2.2.2.2.2.1, hn.2.2.2.2.2.2.2.1, hn.2.2.2.2.2.2.2.2.1, hn.2.2.2.2.2.2.2.2.2.1, fun p hp => ?_⟩
    rw [ko 100 p (by unfold kp_at; rw [if_neg (by omega), if_neg (by omega), if_neg (by omega), if_neg (by omega), if_neg (by omega), if_neg (by omega)]) (by omega)]
    exact hn.2.2.2.2.2.2.2.2.2.2 p hp
  · have q := h1 k j hkj
    cases ho : kp_at k j with
    | some o => exact (kb k j o ho).trans (h3.2 k j hkj)
    | none =>
      rw [ko k j ho (mQ_26 q)]
      have hM : mM k j = false := by
        cases hb : mM k j with
        | false => rfl
        | true =>
          obtain ⟨o, e⟩ := mM_ok hb q
          rw [ho] at e
          cases e
      rw [h5.2 k j hM, h4.2 k j ?_ (mQ_26 q)]
      · exact h3.2 k j hkj
      · rintro ⟨rfl, z1, z2⟩
        have := mQ_98 q
        omega
