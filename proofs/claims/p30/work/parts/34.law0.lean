/-! the law: words -/
theorem gv_of_sx {μ μ' : am_N} (h : sx μ μ') : gv [] μ μ' := ⟨sx_rb h, fun k j hk => h.1 k j (by
  simp only [Bool.and_eq_true] at hk
  exact hk.1)⟩
def lx_E (E : List Nat) : Prop := ∀ k, 83 ≤ k → E.contains k = false
def lx_A (A : Nat → Nat → Bool) : Prop := ∀ k j, k < 83 → A k j = false
theorem sx_p83 {k : Nat} (h : 83 ≤ k) : sx_p k = true := by
  have b : ∀ a c : Nat, c < 83 → (Nat.ble a k && Nat.ble k c) = false := fun a c hc => by
    cases q : Nat.ble k c with
    | false => exact Bool.and_false _
    | true => have := Nat.ble_eq.mp q; omega
  unfold sx_p
  rw [b 8 21 (by omega), b 29 34 (by omega), b 38 43 (by omega), b 78 82 (by omega)]
  rfl
theorem lx_mi {E : List Nat} {μ μ' : am_N} (hE : lx_E E) (h : gv E μ μ') (hm : mi μ) : mi μ' := by
  have e : ∀ k j, 83 ≤ k → μ' k j = μ k j := fun k j hk => h.2 k j (by rw [sx_p83 hk, hE k hk]; rfl)
  unfold mi at hm ⊢
  rw [e 83 14 (by omega), e 83 15 (by omega), e 83 16 (by omega), e 83 21 (by omega), e 83 33 (by omega), e 83 40 (by omega), e 83 42 (by omega), e 98 44 (by omega), e 98 38 (by omega), e 98 39 (by omega)]
  refine ⟨hm.1, hm.2.1, hm.2.2.1, hm.2.2.2.1, hm.2.2.2.2.1, hm.2.2.2.2.2.1, hm.2.2.2.2.2.2.1, hm.2.2.2.2.2.2.2.1, hm.2.2.2.2.2.2.2.2.1, hm.2.2.2.2.2.2.2.2.2.1, fun p hp => ?_⟩
  rw [e 100 p (by omega)]
  exact hm.2.2.2.2.2.2.2.2.2.2 p hp
theorem lx_sx {A : Nat → Nat → Bool} {μ μ' : am_N} (hA : lx_A A) (h : gm A μ μ') (hs : sx μ μ) : sx μ' μ' := by
  have e : ∀ k j, k < 83 → μ' k j = μ k j := fun k j hk => h.2 k j (hA k j hk)
  obtain ⟨-, h1, h2, h3, h4⟩ := hs
  refine ⟨fun _ _ _ => rfl, fun p hp => ?_, fun p hp => ?_, ?_, ?_⟩
  · rw [e 34 p (by omega)]; exact h1 p hp
  · rw [e 43 p (by omega)]; exact h2 p hp
  · unfold sx_4 at h3 ⊢
    rw [e 8 4 (by omega), e 15 4 (by omega), e 29 0 (by omega), e 38 0 (by omega)]
    exact h3
  · unfold px at h4 ⊢
    rw [e 1 4 (by omega), e 22 4 (by omega), e 36 1 (by omega), e 44 1 (by omega), e 46 1 (by omega), e 48 1 (by omega), e 50 1 (by omega), e 53 1 (by omega), e 55 1 (by omega), e 58 1 (by omega), e 60 1 (by omega), e 62 3 (by omega)]
    exact h4
/-- one place of a row, either side: unchanged by both calls -/
theorem lx_eq {E : List Nat} {A : Nat → Nat → Bool} {μ μ1 μ2 : am_N} {a b : Nat} (h1 : gv E μ μ1) (h2 : gm A μ1 μ2) (hA : lx_A A) (ha : a < 83) (hp : sx_p a = true) (hE : lx_E E) (hEa : E.contains a = false) (hAb : A 83 b = false) (h : μ a 1 = μ 83 b) : μ2 a 1 = μ2 83 b := by
  rw [h2.2 a 1 (hA a 1 ha), h2.2 83 b hAb, h1.2 a 1 (by rw [hp, hEa]; rfl), h1.2 83 b (by rw [sx_p83 (Nat.le_refl 83), hE 83 (Nat.le_refl 83)]; rfl)]
  exact h
theorem lx_eqs {E : List Nat} {A : Nat → Nat → Bool} {μ μ1 μ2 : am_N} (h1 : gv E μ μ1) (h2 : gm A μ1 μ2) (hA : lx_A A) (hE : lx_E E) : (∀ b, μ1 83 b = μ 83 b) ∧ ∀ a, a < 83 → μ2 a 1 = μ1 a 1 := ⟨fun b => h1.2 83 b (by rw [sx_p83 (Nat.le_refl 83), hE 83 (Nat.le_refl 83)]; rfl), fun a ha => h2.2 a 1 (hA a 1 ha)⟩
theorem lx_c {E : List Nat} (h : E.all (fun k => Nat.blt k 83) = true) : lx_E E := fun k hk => by
  cases q : E.contains k with
  | false => rfl
  | true =>
    have := List.all_eq_true.mp h k (List.contains_iff_mem.mp q)
    have := Nat.ble_eq.mp this
    omega
theorem lx_A0 : lx_A ms := fun k j hk => by
  have n : ∀ c, 83 ≤ c → Nat.beq k c = false := fun c hc => by
    cases q : Nat.beq k c with
    | false => rfl
    | true => have := Nat.eq_of_beq_eq_true q; omega
  simp only [ms, mT, n 99 (by omega), n 100 (by omega), n 104 (by omega), n 84 (by omega), n 95 (by omega), n 96 (by omega), n 97 (by omega), n 83 (by omega), Bool.or_self, Bool.false_and, Bool.or_false]
theorem lx_Ao {A B : Nat → Nat → Bool} (h1 : lx_A A) (h2 : lx_A B) : lx_A (mo A B) := fun k j hk => Bool.or_eq_false_iff.mpr ⟨h1 k j hk, h2 k j hk⟩
theorem lx_n {k c : Nat} (hk : k < 83) (hc : 83 ≤ c) : Nat.beq k c = false := by
  cases q : Nat.beq k c with
  | false => rfl
  | true => have := Nat.eq_of_beq_eq_true q; omega
theorem lx_b {k c : Nat} (hk : k < 83) (hc : 83 ≤ c) : Nat.ble c k = false := by
  cases q : Nat.ble c k with
  | false => rfl
  | true => have := Nat.ble_eq.mp q; omega
theorem lx_mo {c b : Nat} (hc : 83 ≤ c) : lx_A (m1o c b) := fun k j hk => by simp only [m1o, lx_n hk hc, lx_n hk (Nat.le_refl 83), Bool.false_and, Bool.or_self]
theorem lx_Q1 : lx_A mQ1 := fun k j hk => by simp only [mQ1, lx_n hk (show 83 ≤ 98 by omega), lx_b hk (show 83 ≤ 85 by omega), Bool.false_and, Bool.or_self]
theorem lx_X1 : lx_A mX1 := fun k j hk => by simp only [mX1, lx_n hk (Nat.le_refl 83), lx_b hk (show 83 ≤ 85 by omega), Bool.false_and, Bool.or_self]
theorem lx_I1 : lx_A mI1 := fun k j hk => by simp only [mI1, lx_n hk (Nat.le_refl 83), lx_n hk (show 83 ≤ 98 by omega), Bool.false_and, Bool.or_self]
theorem lx_M1 : lx_A mM1 := fun k j hk => by simp only [mM1, lx_n hk (Nat.le_refl 83), lx_b hk (show 83 ≤ 85 by omega), Bool.false_and, Bool.or_self]
theorem lx_L2 : lx_A mL2 := fun k j hk => by simp only [mL2, lx_n hk (Nat.le_refl 83), Bool.false_and]
theorem lx_K1 : lx_A mK1 := fun k j hk => by simp only [mK1, lx_n hk (Nat.le_refl 83), lx_n hk (show 83 ≤ 101 by omega), lx_n hk (show 83 ≤ 102 by omega), lx_n hk (show 83 ≤ 103 by omega), Bool.false_and, Bool.or_self]
theorem lx_R1 : lx_A mR := fun k j hk => by simp only [mR, lx_n hk (Nat.le_refl 83), lx_n hk (show 83 ≤ 89 by omega), lx_n hk (show 83 ≤ 90 by omega), Bool.false_and, Bool.or_self]
