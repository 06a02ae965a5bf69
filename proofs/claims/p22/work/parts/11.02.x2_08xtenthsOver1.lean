theorem am_yb {a b : Int} (h0 : 0 ≤ a) (h1 : a ≤ 500) (h2 : 0 ≤ b) (h3 : b ≤ 99) : 1 ≤ am_y (a - b) ∧ am_y (a - b) ≤ 1000 := by
  unfold am_y; split <;> omega
theorem am_TC_b {μ : am_N} {c i : Nat} (h : am_fC μ c) (hi : (i : Int) < μ c 4) : 1 ≤ am_TC μ c i ∧ am_TC μ c i ≤ 60000 := by
  obtain ⟨h1, h2, h3⟩ := h
  obtain ⟨h4, h5⟩ := h3 i hi
  obtain ⟨y0, y1⟩ := am_yb h2.1 h2.2 h5.1 h5.2
  exact am_T_b h4 y0 y1
theorem am_TM_b {μ : am_N} {i : Nat} (h : am_fM μ) (hi : (i : Int) < μ 83 14) : 1 ≤ am_TM μ i ∧ am_TM μ i ≤ 60000 := by
  obtain ⟨h1, h2, h3⟩ := h
  obtain ⟨h4, h5⟩ := h3 i hi
  obtain ⟨y0, y1⟩ := am_yb h2.1 h2.2 h5.1 h5.2
  exact am_T_b h4 y0 y1
theorem am_cnt_t {t u : Nat → Int} {i n : Nat} (hi : i < n) (h : ∀ j : Nat, j < n → t j = u j) : ∀ m : Nat, m ≤ n → am_cnt t i m = am_cnt u i m := by
  intro m
  induction m with
  | zero => intro _; rfl
  | succ m ih =>
    intro hm
    simp only [am_cnt]
    rw [ih (by omega), h i hi, h m (by omega)]
theorem am_isord_t {μ : am_N} {c : Nat} {t u : Nat → Int} {n : Int} (h : ∀ i : Nat, (i : Int) < n → t i = u i) (q : am_isord μ c t n) : am_isord μ c u n := fun i hi => by
  rw [← am_cnt_t (t := t) (n := n.toNat) (by omega) (fun j hj => h j (by omega)) n.toNat (Nat.le_refl _)]
  exact q i hi
theorem x_tenthsOver_1 {l : Launch} {ν : am_N} {Q : Option am_V → am_N → Prop} (i y s : Int) (hi0 : 0 ≤ i) (hi1 : i < ν 1 4) (hn : ν 1 4 ≤ 4) (hr : am_rg (ν 4 i.toNat) (ν 3 i.toNat) (ν 2 i.toNat) (ν 1 1)) (y0 : -1000 ≤ y) (y1 : y ≤ 1000) (s0 : -1000 ≤ s) (s1 : s ≤ 1000) (k : Q (some (.inl (am_T (ν 4 i.toNat) (ν 3 i.toNat) (ν 2 i.toNat) (ν 1 1) (am_y y) s))) ν) : am_Does l 10 [.inr (.inr 1), .inl i, .inl y, .inl s] ν Q := by
  obtain ⟨⟨p0, p1⟩, ⟨f0, f1⟩, ⟨k0, k1⟩, ⟨w0, w1⟩⟩ := hr
  rcases (show ν 2 i.toNat = 0 ∨ ν 2 i.toNat = 1 ∨ ν 2 i.toNat = 2 ∨ ν 2 i.toNat = 3 ∨ ν 2 i.toNat = 4 ∨ ν 2 i.toNat = 5 by omega) with e | e | e | e | e | e
  · rw [e] at k; exact x_tenthsOver_1_0 i y s _ _ _ hi0 hi1 hn rfl rfl e rfl p0 p1 f0 f1 w0 w1 y0 y1 s0 s1 k
  · rw [e] at k; exact x_tenthsOver_1_1 i y s _ _ _ hi0 hi1 hn rfl rfl e rfl p0 p1 f0 f1 w0 w1 y0 y1 s0 s1 k
  · rw [e] at k; exact x_tenthsOver_1_2 i y s _ _ _ hi0 hi1 hn rfl rfl e rfl p0 p1 f0 f1 w0 w1 y0 y1 s0 s1 k
  · rw [e] at k; exact x_tenthsOver_1_3 i y s _ _ _ hi0 hi1 hn rfl rfl e rfl p0 p1 f0 f1 w0 w1 y0 y1 s0 s1 k
  · rw [e] at k; exact x_tenthsOver_1_4 i y s _ _ _ hi0 hi1 hn rfl rfl e rfl p0 p1 f0 f1 w0 w1 y0 y1 s0 s1 k
  · rw [e] at k; exact x_tenthsOver_1_5 i y s _ _ _ hi0 hi1 hn rfl rfl e rfl p0 p1 f0 f1 w0 w1 y0 y1 s0 s1 k
