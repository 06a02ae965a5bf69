/-! the order of a race, exactly -/
/-- how many of the first m are ahead of i -/
def am_cnt (t : Nat → Int) (i : Nat) : Nat → Int
  | 0 => 0
  | m + 1 => am_cnt t i m + (if t m < t i ∨ (t m = t i ∧ m < i) then 1 else 0)
theorem am_cnt_b (t : Nat → Int) (i : Nat) : ∀ m, 0 ≤ am_cnt t i m ∧ am_cnt t i m ≤ m
  | 0 => ⟨Int.le_refl 0, Int.le_refl 0⟩
  | m + 1 => by
    have h := am_cnt_b t i m
    simp only [am_cnt]
    split <;> omega
/-- oneself isn't counted -/
theorem am_cnt_l (t : Nat → Int) (i : Nat) : ∀ m, i < m → am_cnt t i m ≤ (m : Int) - 1
  | 0, h => absurd h (Nat.not_lt_zero _)
  | m + 1, h => by
    have hb := am_cnt_b t i m
    by_cases e : i = m
    · subst e
      simp only [am_cnt]
      rw [if_neg (by omega)]
      omega
    · have hl := am_cnt_l t i m (by omega)
      simp only [am_cnt]
      split <;> omega
/-- who is ahead of j where i is ahead of j, and j -/
theorem am_cnt_m (t : Nat → Int) (i j : Nat) (h : t i < t j ∨ (t i = t j ∧ i < j)) : ∀ m, am_cnt t i m + (if i < m then 1 else 0) ≤ am_cnt t j m
  | 0 => by simp [am_cnt]
  | m + 1 => by
    have q := am_cnt_m t i j h m
    simp only [am_cnt]
    by_cases e : i = m
    · subst e
      rw [if_neg (by omega)] at q
      rw [if_neg (by omega), if_pos (by omega), if_pos (by omega)]
      omega
    · by_cases e2 : t m < t i ∨ (t m = t i ∧ m < i)
      · rw [if_pos e2, if_pos (by omega : t m < t j ∨ (t m = t j ∧ m < j))]
        by_cases e3 : i < m
        · rw [if_pos e3] at q; rw [if_pos (by omega)]; omega
        · rw [if_neg e3] at q; rw [if_neg (by omega)]; omega
      · rw [if_neg e2]
        by_cases e3 : i < m
        · rw [if_pos e3] at q; rw [if_pos (by omega)]; split <;> omega
        · rw [if_neg e3] at q; rw [if_neg (by omega)]; split <;> omega
theorem am_cnt_ne (t : Nat → Int) {i j m : Nat} (hi : i < m) (hj : j < m) (h : i ≠ j) : am_cnt t i m ≠ am_cnt t j m := by
  by_cases e : t i < t j ∨ (t i = t j ∧ i < j)
  · have q := am_cnt_m t i j e m
    rw [if_pos hi] at q
    omega
  · have q := am_cnt_m t j i (by omega) m
    rw [if_pos hj] at q
    omega
/-- each place is somebody's -/
theorem am_cnt_s (t : Nat → Int) {m : Nat} (hm : m ≤ 4) : ∀ p : Nat, p < m → ∃ i, i < m ∧ am_cnt t i m = p := by
  intro p hp
  rcases (show m = 1 ∨ m = 2 ∨ m = 3 ∨ m = 4 by omega) with rfl | rfl | rfl | rfl
  · exact ⟨0, by omega, by have := am_cnt_b t 0 1; have := am_cnt_l t 0 1 (by omega); omega⟩
  · have a0 := am_cnt_b t 0 2; have a1 := am_cnt_b t 1 2; have b0 := am_cnt_l t 0 2 (by omega); have b1 := am_cnt_l t 1 2 (by omega)
    have c01 := am_cnt_ne t (i := 0) (j := 1) (m := 2) (by omega) (by omega) (by decide)
    rcases (show am_cnt t 0 2 = p ∨ am_cnt t 1 2 = p by omega) with h | h
    · exact ⟨0, by omega, h⟩
    · exact ⟨1, by omega, h⟩
  · have a0 := am_cnt_b t 0 3; have a1 := am_cnt_b t 1 3; have a2 := am_cnt_b t 2 3; have b0 := am_cnt_l t 0 3 (by omega); have b1 := am_cnt_l t 1 3 (by omega); have b2 := am_cnt_l t 2 3 (by omega)
    have c01 := am_cnt_ne t (i := 0) (j := 1) (m := 3) (by omega) (by omega) (by decide)
    have c02 := am_cnt_ne t (i := 0) (j := 2) (m := 3) (by omega) (by omega) (by decide)
    have c12 := am_cnt_ne t (i := 1) (j := 2) (m := 3) (by omega) (by omega) (by decide)
    rcases (show am_cnt t 0 3 = p ∨ am_cnt t 1 3 = p ∨ am_cnt t 2 3 = p by omega) with h | h | h
    · exact ⟨0, by omega, h⟩
    · exact ⟨1, by omega, h⟩
    · exact ⟨2, by omega, h⟩
  · have a0 := am_cnt_b t 0 4; have a1 := am_cnt_b t 1 4; have a2 := am_cnt_b t 2 4; have a3 := am_cnt_b t 3 4; have b0 := am_cnt_l t 0 4 (by omega); have b1 := am_cnt_l t 1 4 (by omega); have b2 := am_cnt_l t 2 4 (by omega); have b3 := am_cnt_l t 3 4 (by omega)
    have c01 := am_cnt_ne t (i := 0) (j := 1) (m := 4) (by omega) (by omega) (by decide)
    have c02 := am_cnt_ne t (i := 0) (j := 2) (m := 4) (by omega) (by omega) (by decide)
    have c03 := am_cnt_ne t (i := 0) (j := 3) (m := 4) (by omega) (by omega) (by decide)
    have c12 := am_cnt_ne t (i := 1) (j := 2) (m := 4) (by omega) (by omega) (by decide)
    have c13 := am_cnt_ne t (i := 1) (j := 3) (m := 4) (by omega) (by omega) (by decide)
    have c23 := am_cnt_ne t (i := 2) (j := 3) (m := 4) (by omega) (by omega) (by decide)
    rcases (show am_cnt t 0 4 = p ∨ am_cnt t 1 4 = p ∨ am_cnt t 2 4 = p ∨ am_cnt t 3 4 = p by omega) with h | h | h | h
    · exact ⟨0, by omega, h⟩
    · exact ⟨1, by omega, h⟩
    · exact ⟨2, by omega, h⟩
    · exact ⟨3, by omega, h⟩
/-- fewer ahead: no later time -/
theorem am_cnt_le (t : Nat → Int) {i j m : Nat} (hj : j < m) (h : am_cnt t i m ≤ am_cnt t j m) : t i ≤ t j := by
  by_cases e : t j < t i
  · have q := am_cnt_m t j i (Or.inl e) m
    rw [if_pos hj] at q
    omega
  · omega
/-- one more at place k -/
theorem am_ins (t : Nat → Int) {r : Nat} {k : Int} (hr : r + 1 ≤ 4) (k0 : 0 ≤ k) (k1 : k ≤ r) (H : ∀ i, i < r → (am_cnt t i r < k → t i ≤ t r) ∧ (k ≤ am_cnt t i r → t r < t i)) : am_cnt t r (r + 1) = k ∧ ∀ i, i < r → am_cnt t i (r + 1) = am_cnt t i r + (if am_cnt t i r < k then 0 else 1) := by
  have h2 : ∀ i, i < r → am_cnt t i (r + 1) = am_cnt t i r + (if am_cnt t i r < k then 0 else 1) := fun i hi => by
    have q := H i hi
    simp only [am_cnt]
    by_cases e : am_cnt t i r < k
    · have := q.1 e
      rw [if_pos e, if_neg (by omega)]
    · have := q.2 (by omega)
      rw [if_neg e, if_pos (by omega)]
  refine ⟨?_, h2⟩
  obtain ⟨i, hi, hc⟩ := am_cnt_s t (m := r + 1) hr k.toNat (by omega)
  by_cases e : i = r
  · subst e; omega
  · have q := h2 i (by omega)
    split at q <;> omega
/-- the first r are sorted in cell c, save that from place k on all stand one further -/
def am_gap (μ : am_N) (c : Nat) (t : Nat → Int) (r : Nat) (k : Int) : Prop := ∀ i : Nat, i < r → (am_cnt t i r < k → μ c (am_cnt t i r).toNat = i) ∧ (k ≤ am_cnt t i r → t r < t i ∧ μ c ((am_cnt t i r).toNat + 1) = i)
theorem am_gap0 {μ : am_N} {c : Nat} {t : Nat → Int} {r : Nat} (h : ∀ i : Nat, i < r → μ c (am_cnt t i r).toNat = i) : am_gap μ c t r r := fun i hi => ⟨fun _ => h i hi, fun q => by have := am_cnt_l t i r hi; omega⟩
/-- who stands before the gap -/
theorem am_gap_b {μ : am_N} {c : Nat} {t : Nat → Int} {r : Nat} {k : Int} (hr : r ≤ 3) (h : am_gap μ c t r k) (k0 : 0 < k) (k1 : k ≤ r) : ∃ i : Nat, i < r ∧ am_cnt t i r = k - 1 ∧ μ c (k - 1).toNat = i := by
  obtain ⟨i, hi, hc⟩ := am_cnt_s t (m := r) (by omega) (k - 1).toNat (by omega)
  have e : am_cnt t i r = k - 1 := by omega
  have q := (h i hi).1 (by omega)
  rw [e] at q
  exact ⟨i, hi, e, q⟩
theorem am_gap1 {μ : am_N} {c : Nat} {t : Nat → Int} {r : Nat} {k : Int} (hr : r ≤ 3) (h : am_gap μ c t r k) (k0 : 0 < k) (k1 : k ≤ r) (ht : t r < t (μ c (k - 1).toNat).toNat) : am_gap (am_up μ c k.toNat (μ c (k - 1).toNat)) c t r (k - 1) := by
  obtain ⟨j, hj, hc, hv⟩ := am_gap_b hr h k0 k1
  rw [hv] at ht ⊢
  have ej : ((j : Int)).toNat = j := by omega
  rw [ej] at ht
  intro i hi
  have q := h i hi
  have b := am_cnt_b t i r
  constructor
  · intro z
    rw [show am_up μ c k.toNat (j : Int) c (am_cnt t i r).toNat = μ c (am_cnt t i r).toNat from if_neg (fun w => by have := w.2; omega)]
    exact q.1 (by omega)
  · intro z
    by_cases e : am_cnt t i r = k - 1
    · have d : i = j := by
        by_cases d : i = j
        · exact d
        · exact absurd (by rw [e, hc]) (am_cnt_ne t hi hj d)
      subst d
      refine ⟨ht, ?_⟩
      rw [show (am_cnt t i r).toNat + 1 = k.toNat by omega]
      exact if_pos ⟨rfl, rfl⟩
    · have q2 := q.2 (by omega)
      refine ⟨q2.1, ?_⟩
      rw [show am_up μ c k.toNat (j : Int) c ((am_cnt t i r).toNat + 1) = μ c ((am_cnt t i r).toNat + 1) from if_neg (fun w => by have := w.2; omega)]
      exact q2.2
theorem am_gap2 {μ : am_N} {c : Nat} {t : Nat → Int} {r : Nat} {k : Int} (hr : r ≤ 3) (h : am_gap μ c t r k) (k0 : 0 ≤ k) (k1 : k ≤ r) (ht : 0 < k → t (μ c (k - 1).toNat).toNat ≤ t r) : ∀ i : Nat, i < r + 1 → am_up μ c k.toNat r c (am_cnt t i (r + 1)).toNat = i := by
  have H : ∀ i, i < r → (am_cnt t i r < k → t i ≤ t r) ∧ (k ≤ am_cnt t i r → t r < t i) := fun i hi => by
    refine ⟨fun z => ?_, fun z => ((h i hi).2 z).1⟩
    have b := am_cnt_b t i r
    obtain ⟨j, hj, hc, hv⟩ := am_gap_b hr h (by omega) k1
    have q := ht (by omega)
    rw [hv, show ((j : Int)).toNat = j by omega] at q
    have p : t i ≤ t j := am_cnt_le t hj (by omega)
    omega
  obtain ⟨a, b⟩ := am_ins t (by omega : r + 1 ≤ 4) k0 k1 H
  intro i hi
  by_cases e : i = r
  · subst e
    rw [a]
    exact if_pos ⟨rfl, rfl⟩
  · have q := h i (by omega)
    have c0 := am_cnt_b t i r
    rw [b i (by omega)]
    by_cases e2 : am_cnt t i r < k
    · rw [if_pos e2, show am_cnt t i r + 0 = am_cnt t i r by omega]
      rw [show am_up μ c k.toNat (r : Int) c (am_cnt t i r).toNat = μ c (am_cnt t i r).toNat from if_neg (fun w => by have := w.2; omega)]
      exact q.1 e2
    · rw [if_neg e2, show (am_cnt t i r + 1).toNat = (am_cnt t i r).toNat + 1 by omega]
      rw [show am_up μ c k.toNat (r : Int) c ((am_cnt t i r).toNat + 1) = μ c ((am_cnt t i r).toNat + 1) from if_neg (fun w => by have := w.2; omega)]
      exact (q.2 (by omega)).2
theorem am_gap1e {μ : am_N} {c : Nat} {t : Nat → Int} {r : Nat} {k k' v : Int} {j : Nat} (hr : r ≤ 3) (h : am_gap μ c t r k) (k0 : 0 < k) (k1 : k ≤ r) (hj : j = k.toNat) (hv : v = μ c (k - 1).toNat) (hk : k' = k - 1) (ht : t r < t v.toNat) : am_gap (am_up μ c j v) c t r k' := by
  subst hj; subst hv; subst hk; exact am_gap1 hr h k0 k1 ht
theorem am_gap2e {μ : am_N} {c : Nat} {t : Nat → Int} {r : Nat} {k v : Int} {j r1 : Nat} (hr : r ≤ 3) (h : am_gap μ c t r k) (k0 : 0 ≤ k) (k1 : k ≤ r) (hj : j = k.toNat) (hv : v = r) (h1 : r1 = r + 1) (ht : 0 < k → t (μ c (k - 1).toNat).toNat ≤ t r) : ∀ i : Nat, i < r1 → am_up μ c j v c (am_cnt t i r1).toNat = i := by
  subst hj; subst hv; subst h1; exact am_gap2 hr h k0 k1 ht
/-- somebody is put at his place -/
theorem am_put {μ : am_N} {c : Nat} {t : Nat → Int} {i v : Int} {n p : Nat} (h0 : 0 ≤ i) (hi : i < n) (h : ∀ q : Nat, (q : Int) < i → μ c (am_cnt t q n).toNat = q) (hp : p = (am_cnt t i.toNat n).toNat) (hv : v = i) : ∀ q : Nat, (q : Int) < i + 1 → am_up μ c p v c (am_cnt t q n).toNat = q := by
  subst hp; subst hv
  intro q hq
  by_cases e : (q : Int) = v
  · rw [show v.toNat = q by omega, e.symm]
    exact if_pos ⟨rfl, rfl⟩
  · have ne := am_cnt_ne t (i := q) (j := v.toNat) (m := n) (by omega) (by omega) (by omega)
    have b1 := am_cnt_b t q n
    have b2 := am_cnt_b t v.toNat n
    rw [show am_up μ c (am_cnt t v.toNat n).toNat v c (am_cnt t q n).toNat = μ c (am_cnt t q n).toNat from if_neg (fun w => by have := w.2; omega)]
    exact h q (by omega)
/-- the places in the cell c are the order by the times t of n -/
def am_isord (μ : am_N) (c : Nat) (t : Nat → Int) (n : Int) : Prop := ∀ i : Nat, (i : Int) < n → μ c (am_cnt t i n.toNat).toNat = i
theorem am_isord_eq {μ ν : am_N} {c d : Nat} {t u : Nat → Int} {n : Int} (hn : n ≤ 4) (h1 : am_isord μ c t n) (h2 : am_isord ν d u n) (ht : ∀ i : Nat, (i : Int) < n → t i = u i) : ∀ p : Nat, (p : Int) < n → μ c p = ν d p := by
  have e : ∀ i : Nat, (i : Int) < n → ∀ m : Nat, (m : Int) ≤ n → am_cnt t i m = am_cnt u i m := by
    intro i hi m
    induction m with
    | zero => intro _; rfl
    | succ m ih =>
      intro hm
      simp only [am_cnt]
      rw [ih (by omega), ht i hi, ht m (by omega)]
  intro p hp
  obtain ⟨i, hi, hc⟩ := am_cnt_s t (m := n.toNat) (by omega) p (by omega)
  have q1 := h1 i (by omega)
  have q2 := h2 i (by omega)
  rw [← e i (by omega) n.toNat (by omega), hc] at q2
  rw [hc] at q1
  have z : ((p : Int)).toNat = p := by omega
  rw [z] at q1 q2
  rw [q1, q2]
theorem x_line {l : Launch} {ν : am_N} {Q : Option am_V → am_N → Prop} (hn0 : 0 ≤ ν 29 0) (hn1 : ν 29 0 ≤ 4) (ht : ∀ j : Nat, (j : Int) < ν 29 0 → -2147483648 ≤ ν 33 j ∧ ν 33 j ≤ 2147483647) (k : ∀ μ' : am_N, (∀ a b, a ≠ 34 → μ' a b = ν a b) → am_isord μ' 34 (ν 33) (ν 29 0) → (sx_3 ν 34 → sx_3 μ' 34) → Q none μ') : am_Does l 36 [.inr (.inr 29)] ν Q := by
  refine am_Does_of (Nat.le_of_ble_eq_true rfl) (Nat.le_of_ble_eq_true rfl) (Nat.le_of_ble_eq_true rfl) ?_
  have lp14 : ∀ (m : Nat) (i p j : Int) (μ : am_N) , (∀ a b, a ≠ 34 → μ a b = ν a b) → 0 ≤ i → i < ν 29 0 → 0 ≤ j → j ≤ ν 29 0 → p = am_cnt (ν 33) i.toNat j.toNat → (∀ q : Nat, (q : Int) < i → μ 34 (am_cnt (ν 33) q (ν 29 0).toNat).toNat = q) → (∀ (p j : Int) (μ : am_N), (∀ a b, a ≠ 34 → μ a b = ν a b) → (∀ q : Nat, (q : Int) < i + 1 → μ 34 (am_cnt (ν 33) q (ν 29 0).toNat).toNat = q) → (sx_3 ν 34 → sx_3 μ 34) → am_AW l 0 (fun _ => 0) 36 Q 2 [some (.inr (.inr 29)), some (.inl (i + 1)), some (.inl p), some (.inl j)] [] μ) → (sx_3 ν 34 → sx_3 μ 34) → ν 29 0 - j < (m : Int) → am_AW l 0 (fun _ => 0) 36 Q 14 [some (.inr (.inr 29)), some (.inl i), some (.inl p), some (.inl j)] [] μ := by
    intro m
    induction m with
    | zero =>
      intro i p j μ hv0 hv1 hv2 hv3 hv4 hv5 hv6 hv7 hv8 hm
      exfalso
      omega
    | succ m ih =>
      intro i p j μ hv0 hv1 hv2 hv3 hv4 hv5 hv6 hv7 hv8 hm
      have en : μ 29 0 = ν 29 0 := hv0 29 0 (by decide)
      have et : ∀ b, μ 33 b = ν 33 b := fun b => hv0 33 b (by decide)
      have ci : am_c i = i := am_cR (by omega) (by omega)
      have cj : am_c j = j := am_cR (by omega) (by omega)
      have cn : am_c (ν 29 0) = ν 29 0 := am_cR (by omega) (by omega)
      have ti := ht i.toNat (by omega)
      have cti : am_c (ν 33 i.toNat) = ν 33 i.toNat := am_cR (by omega) (by omega)
      have ctj : j < ν 29 0 → am_c (ν 33 j.toNat) = ν 33 j.toNat := fun q => by have := ht j.toNat (by omega); exact am_cR (by omega) (by omega)
      have ej : (j + 1).toNat = j.toNat + 1 := by omega
      have pb := am_cnt_b (ν 33) i.toNat j.toNat
      have cp : am_c p = p := am_cR (by omega) (by omega)
      have pl : j = ν 29 0 → p ≤ ν 29 0 - 1 := fun q => by
        have z := am_cnt_l (ν 33) i.toNat (ν 29 0).toNat (by omega)
        rw [hv5, q]
        omega
      refine am_go (ct := fun pc => Nat.beq pc 14 || Nat.beq pc 2) am_oX2_line 300 ?_
      conv => whnf
      repeat' first
        | (refine (?_ : am_wp _ _ _ _ _ _ _ _ _ _ _ _); conv => whnf)
        | (refine (?_ : am_sw _ _ _ _); conv => whnf)
        | refine And.intro trivial ?_
        | exact trivial
        | refine hv7 _ _ _ ?_ ?_ ?_
        | refine ih _ _ _ _ ?_ ?_ ?_ ?_ ?_ ?_ ?_ ?_ ?_ ?_
        | refine And.intro (fun h => absurd h (by decide)) (fun _ => ?_)
        | refine And.intro (fun _ => ?_) (fun h => absurd (by decide) h)
        | refine And.intro (fun _ => ?_) (fun _ => ?_)
        | refine And.intro ?_ ?_
      all_goals (first | decide | assumption | omega | (simp only [en, ci, cj, cp, cn] at *; omega) | (intro a b ha; rw [am_upN ha]; exact hv0 a b ha) | (intro hb; exact sx_3S (hv8 hb) hv1 (by omega)) | (have en2 : j = ν 29 0 := (by simp only [en, ci, cj, cn] at *; omega); refine am_put hv1 (by omega) hv6 ?_ rfl; rw [cp, hv5, en2]) | (have jn : j < ν 29 0 := (by simp only [en, ci, cj, cn] at *; omega); have ct := ctj jn; simp only [ej, am_cnt, en, ci, cj, cn, et, cti, ct] at *; (first | rw [if_pos (by omega)] | rw [if_neg (by omega)]); omega) | (trace_state; fail))
  have lp14' : ∀ (i p j : Int) (μ : am_N) , (∀ a b, a ≠ 34 → μ a b = ν a b) → 0 ≤ i → i < ν 29 0 → 0 ≤ j → j ≤ ν 29 0 → p = am_cnt (ν 33) i.toNat j.toNat → (∀ q : Nat, (q : Int) < i → μ 34 (am_cnt (ν 33) q (ν 29 0).toNat).toNat = q) → (∀ (p j : Int) (μ : am_N), (∀ a b, a ≠ 34 → μ a b = ν a b) → (∀ q : Nat, (q : Int) < i + 1 → μ 34 (am_cnt (ν 33) q (ν 29 0).toNat).toNat = q) → (sx_3 ν 34 → sx_3 μ 34) → am_AW l 0 (fun _ => 0) 36 Q 2 [some (.inr (.inr 29)), some (.inl (i + 1)), some (.inl p), some (.inl j)] [] μ) → (sx_3 ν 34 → sx_3 μ 34) → am_AW l 0 (fun _ => 0) 36 Q 14 [some (.inr (.inr 29)), some (.inl i), some (.inl p), some (.inl j)] [] μ := fun i p j μ hv0 hv1 hv2 hv3 hv4 hv5 hv6 hv7 hv8 => lp14 ((ν 29 0 - j) + 1).toNat i p j μ hv0 hv1 hv2 hv3 hv4 hv5 hv6 hv7 hv8 (by omega)
  have lp2 : ∀ (m : Nat) (i : Int) (o2 o3 : Option am_V) (μ : am_N) , (∀ a b, a ≠ 34 → μ a b = ν a b) → 0 ≤ i → i ≤ ν 29 0 → (∀ q : Nat, (q : Int) < i → μ 34 (am_cnt (ν 33) q (ν 29 0).toNat).toNat = q) → (sx_3 ν 34 → sx_3 μ 34) → ν 29 0 - i < (m : Int) → am_AW l 0 (fun _ => 0) 36 Q 2 [some (.inr (.inr 29)), some (.inl i), o2, o3] [] μ := by
    intro m
    induction m with
    | zero =>
      intro i o2 o3 μ hv0 hv1 hv2 hv3 hv4 hm
      exfalso
      omega
    | succ m ih =>
      intro i o2 o3 μ hv0 hv1 hv2 hv3 hv4 hm
      have en : μ 29 0 = ν 29 0 := hv0 29 0 (by decide)
      have ci : am_c i = i := am_cR (by omega) (by omega)
      have cn : am_c (ν 29 0) = ν 29 0 := am_cR (by omega) (by omega)
      refine am_go (ct := fun pc => Nat.beq pc 14 || Nat.beq pc 2) am_oX2_line 300 ?_
      conv => whnf
      repeat' first
        | (refine (?_ : am_wp _ _ _ _ _ _ _ _ _ _ _ _); conv => whnf)
        | (refine (?_ : am_sw _ _ _ _); conv => whnf)
        | refine And.intro trivial ?_
        | exact trivial
        | refine k _ ?_ ?_ ?_
        | refine ih _ _ _ _ ?_ ?_ ?_ ?_ ?_ ?_
        | refine lp14' _ _ _ _ ?_ ?_ ?_ ?_ ?_ ?_ ?_ ?_ ?_
        | refine And.intro (fun h => absurd h (by decide)) (fun _ => ?_)
        | refine And.intro (fun _ => ?_) (fun h => absurd (by decide) h)
        | refine And.intro (fun _ => ?_) (fun _ => ?_)
        | refine And.intro ?_ ?_
      all_goals (first | decide | assumption | rfl | omega | (simp only [en, ci, cn] at *; omega) | (intro q hq; exact hv3 q (by simp only [en, ci, cn] at *; omega)) | (intros; refine ih _ _ _ _ ?_ ?_ ?_ ?_ ?_ ?_ <;> first | assumption | omega | (simp only [en, ci, cn] at *; omega)) | (trace_state; fail))
  have lp2' : ∀ (i : Int) (o2 o3 : Option am_V) (μ : am_N) , (∀ a b, a ≠ 34 → μ a b = ν a b) → 0 ≤ i → i ≤ ν 29 0 → (∀ q : Nat, (q : Int) < i → μ 34 (am_cnt (ν 33) q (ν 29 0).toNat).toNat = q) → (sx_3 ν 34 → sx_3 μ 34) → am_AW l 0 (fun _ => 0) 36 Q 2 [some (.inr (.inr 29)), some (.inl i), o2, o3] [] μ := fun i o2 o3 μ hv0 hv1 hv2 hv3 hv4 => lp2 ((ν 29 0 - i) + 1).toNat i o2 o3 μ hv0 hv1 hv2 hv3 hv4 (by omega)
  refine am_go (ct := fun pc => Nat.beq pc 14 || Nat.beq pc 2) am_oX2_line 300 ?_
  conv => whnf
  repeat' first
    | (refine (?_ : am_wp _ _ _ _ _ _ _ _ _ _ _ _); conv => whnf)
    | (refine (?_ : am_sw _ _ _ _); conv => whnf)
    | refine And.intro trivial ?_
    | exact trivial
    | refine lp2' _ _ _ _ ?_ ?_ ?_ ?_ ?_
    | refine lp14' _ _ _ _ ?_ ?_ ?_ ?_ ?_ ?_ ?_ ?_ ?_
    | refine And.intro (fun h => absurd h (by decide)) (fun _ => ?_)
    | refine And.intro (fun _ => ?_) (fun h => absurd (by decide) h)
    | refine And.intro (fun _ => ?_) (fun _ => ?_)
    | refine And.intro ?_ ?_
  all_goals (first | decide | assumption | omega | exact fun _ _ _ => rfl | exact fun z => z | (intros; omega) | (trace_state; fail))
theorem x_line_38 {l : Launch} {ν : am_N} {Q : Option am_V → am_N → Prop} (hn0 : 0 ≤ ν 38 0) (hn1 : ν 38 0 ≤ 4) (ht : ∀ j : Nat, (j : Int) < ν 38 0 → -2147483648 ≤ ν 42 j ∧ ν 42 j ≤ 2147483647) (k : ∀ μ' : am_N, (∀ a b, a ≠ 43 → μ' a b = ν a b) → am_isord μ' 43 (ν 42) (ν 38 0) → (sx_3 ν 43 → sx_3 μ' 43) → Q none μ') : am_Does l 36 [.inr (.inr 38)] ν Q := by
  refine am_Does_of (Nat.le_of_ble_eq_true rfl) (Nat.le_of_ble_eq_true rfl) (Nat.le_of_ble_eq_true rfl) ?_
  have lp14 : ∀ (m : Nat) (i p j : Int) (μ : am_N) , (∀ a b, a ≠ 43 → μ a b = ν a b) → 0 ≤ i → i < ν 38 0 → 0 ≤ j → j ≤ ν 38 0 → p = am_cnt (ν 42) i.toNat j.toNat → (∀ q : Nat, (q : Int) < i → μ 43 (am_cnt (ν 42) q (ν 38 0).toNat).toNat = q) → (∀ (p j : Int) (μ : am_N), (∀ a b, a ≠ 43 → μ a b = ν a b) → (∀ q : Nat, (q : Int) < i + 1 → μ 43 (am_cnt (ν 42) q (ν 38 0).toNat).toNat = q) → (sx_3 ν 43 → sx_3 μ 43) → am_AW l 0 (fun _ => 0) 36 Q 2 [some (.inr (.inr 38)), some (.inl (i + 1)), some (.inl p), some (.inl j)] [] μ) → (sx_3 ν 43 → sx_3 μ 43) → ν 38 0 - j < (m : Int) → am_AW l 0 (fun _ => 0) 36 Q 14 [some (.inr (.inr 38)), some (.inl i), some (.inl p), some (.inl j)] [] μ := by
    intro m
    induction m with
    | zero =>
      intro i p j μ hv0 hv1 hv2 hv3 hv4 hv5 hv6 hv7 hv8 hm
      exfalso
      omega
    | succ m ih =>
      intro i p j μ hv0 hv1 hv2 hv3 hv4 hv5 hv6 hv7 hv8 hm
      have en : μ 38 0 = ν 38 0 := hv0 38 0 (by decide)
      have et : ∀ b, μ 42 b = ν 42 b := fun b => hv0 42 b (by decide)
      have ci : am_c i = i := am_cR (by omega) (by omega)
      have cj : am_c j = j := am_cR (by omega) (by omega)
      have cn : am_c (ν 38 0) = ν 38 0 := am_cR (by omega) (by omega)
      have ti := ht i.toNat (by omega)
      have cti : am_c (ν 42 i.toNat) = ν 42 i.toNat := am_cR (by omega) (by omega)
      have ctj : j < ν 38 0 → am_c (ν 42 j.toNat) = ν 42 j.toNat := fun q => by have := ht j.toNat (by omega); exact am_cR (by omega) (by omega)
      have ej : (j + 1).toNat = j.toNat + 1 := by omega
      have pb := am_cnt_b (ν 42) i.toNat j.toNat
      have cp : am_c p = p := am_cR (by omega) (by omega)
      have pl : j = ν 38 0 → p ≤ ν 38 0 - 1 := fun q => by
        have z := am_cnt_l (ν 42) i.toNat (ν 38 0).toNat (by omega)
        rw [hv5, q]
        omega
      refine am_go (ct := fun pc => Nat.beq pc 14 || Nat.beq pc 2) am_oX2_line 300 ?_
      conv => whnf
      repeat' first
        | (refine (?_ : am_wp _ _ _ _ _ _ _ _ _ _ _ _); conv => whnf)
        | (refine (?_ : am_sw _ _ _ _); conv => whnf)
        | refine And.intro trivial ?_
        | exact trivial
        | refine hv7 _ _ _ ?_ ?_ ?_
        | refine ih _ _ _ _ ?_ ?_ ?_ ?_ ?_ ?_ ?_ ?_ ?_ ?_
        | refine And.intro (fun h => absurd h (by decide)) (fun _ => ?_)
        | refine And.intro (fun _ => ?_) (fun h => absurd (by decide) h)
        | refine And.intro (fun _ => ?_) (fun _ => ?_)
        | refine And.intro ?_ ?_
      all_goals (first | decide | assumption | omega | (simp only [en, ci, cj, cp, cn] at *; omega) | (intro a b ha; rw [am_upN ha]; exact hv0 a b ha) | (intro hb; exact sx_3S (hv8 hb) hv1 (by omega)) | (have en2 : j = ν 38 0 := (by simp only [en, ci, cj, cn] at *; omega); refine am_put hv1 (by omega) hv6 ?_ rfl; rw [cp, hv5, en2]) | (have jn : j < ν 38 0 := (by simp only [en, ci, cj, cn] at *; omega); have ct := ctj jn; simp only [ej, am_cnt, en, ci, cj, cn, et, cti, ct] at *; (first | rw [if_pos (by omega)] | rw [if_neg (by omega)]); omega) | (trace_state; fail))
  have lp14' : ∀ (i p j : Int) (μ : am_N) , (∀ a b, a ≠ 43 → μ a b = ν a b) → 0 ≤ i → i < ν 38 0 → 0 ≤ j → j ≤ ν 38 0 → p = am_cnt (ν 42) i.toNat j.toNat → (∀ q : Nat, (q : Int) < i → μ 43 (am_cnt (ν 42) q (ν 38 0).toNat).toNat = q) → (∀ (p j : Int) (μ : am_N), (∀ a b, a ≠ 43 → μ a b = ν a b) → (∀ q : Nat, (q : Int) < i + 1 → μ 43 (am_cnt (ν 42) q (ν 38 0).toNat).toNat = q) → (sx_3 ν 43 → sx_3 μ 43) → am_AW l 0 (fun _ => 0) 36 Q 2 [some (.inr (.inr 38)), some (.inl (i + 1)), some (.inl p), some (.inl j)] [] μ) → (sx_3 ν 43 → sx_3 μ 43) → am_AW l 0 (fun _ => 0) 36 Q 14 [some (.inr (.inr 38)), some (.inl i), some (.inl p), some (.inl j)] [] μ := fun i p j μ hv0 hv1 hv2 hv3 hv4 hv5 hv6 hv7 hv8 => lp14 ((ν 38 0 - j) + 1).toNat i p j μ hv0 hv1 hv2 hv3 hv4 hv5 hv6 hv7 hv8 (by omega)
  have lp2 : ∀ (m : Nat) (i : Int) (o2 o3 : Option am_V) (μ : am_N) , (∀ a b, a ≠ 43 → μ a b = ν a b) → 0 ≤ i → i ≤ ν 38 0 → (∀ q : Nat, (q : Int) < i → μ 43 (am_cnt (ν 42) q (ν 38 0).toNat).toNat = q) → (sx_3 ν 43 → sx_3 μ 43) → ν 38 0 - i < (m : Int) → am_AW l 0 (fun _ => 0) 36 Q 2 [some (.inr (.inr 38)), some (.inl i), o2, o3] [] μ := by
    intro m
    induction m with
    | zero =>
      intro i o2 o3 μ hv0 hv1 hv2 hv3 hv4 hm
      exfalso
      omega
    | succ m ih =>
      intro i o2 o3 μ hv0 hv1 hv2 hv3 hv4 hm
      have en : μ 38 0 = ν 38 0 := hv0 38 0 (by decide)
      have ci : am_c i = i := am_cR (by omega) (by omega)
      have cn : am_c (ν 38 0) = ν 38 0 := am_cR (by omega) (by omega)
      refine am_go (ct := fun pc => Nat.beq pc 14 || Nat.beq pc 2) am_oX2_line 300 ?_
      conv => whnf
      repeat' first
        | (refine (?_ : am_wp _ _ _ _ _ _ _ _ _ _ _ _); conv => whnf)
        | (refine (?_ : am_sw _ _ _ _); conv => whnf)
        | refine And.intro trivial ?_
        | exact trivial
        | refine k _ ?_ ?_ ?_
        | refine ih _ _ _ _ ?_ ?_ ?_ ?_ ?_ ?_
        | refine lp14' _ _ _ _ ?_ ?_ ?_ ?_ ?_ ?_ ?_ ?_ ?_
        | refine And.intro (fun h => absurd h (by decide)) (fun _ => ?_)
        | refine And.intro (fun _ => ?_) (fun h => absurd (by decide) h)
        | refine And.intro (fun _ => ?_) (fun _ => ?_)
        | refine And.intro ?_ ?_
      all_goals (first | decide | assumption | rfl | omega | (simp only [en, ci, cn] at *; omega) | (intro q hq; exact hv3 q (by simp only [en, ci, cn] at *; omega)) | (intros; refine ih _ _ _ _ ?_ ?_ ?_ ?_ ?_ ?_ <;> first | assumption | omega | (simp only [en, ci, cn] at *; omega)) | (trace_state; fail))
  have lp2' : ∀ (i : Int) (o2 o3 : Option am_V) (μ : am_N) , (∀ a b, a ≠ 43 → μ a b = ν a b) → 0 ≤ i → i ≤ ν 38 0 → (∀ q : Nat, (q : Int) < i → μ 43 (am_cnt (ν 42) q (ν 38 0).toNat).toNat = q) → (sx_3 ν 43 → sx_3 μ 43) → am_AW l 0 (fun _ => 0) 36 Q 2 [some (.inr (.inr 38)), some (.inl i), o2, o3] [] μ := fun i o2 o3 μ hv0 hv1 hv2 hv3 hv4 => lp2 ((ν 38 0 - i) + 1).toNat i o2 o3 μ hv0 hv1 hv2 hv3 hv4 (by omega)
  refine am_go (ct := fun pc => Nat.beq pc 14 || Nat.beq pc 2) am_oX2_line 300 ?_
  conv => whnf
  repeat' first
    | (refine (?_ : am_wp _ _ _ _ _ _ _ _ _ _ _ _); conv => whnf)
    | (refine (?_ : am_sw _ _ _ _); conv => whnf)
    | refine And.intro trivial ?_
    | exact trivial
    | refine lp2' _ _ _ _ ?_ ?_ ?_ ?_ ?_
    | refine lp14' _ _ _ _ ?_ ?_ ?_ ?_ ?_ ?_ ?_ ?_ ?_
    | refine And.intro (fun h => absurd h (by decide)) (fun _ => ?_)
    | refine And.intro (fun _ => ?_) (fun h => absurd (by decide) h)
    | refine And.intro (fun _ => ?_) (fun _ => ?_)
    | refine And.intro ?_ ?_
  all_goals (first | decide | assumption | omega | exact fun _ _ _ => rfl | exact fun z => z | (intros; omega) | (trace_state; fail))
theorem x_sorts {l : Launch} {ν : am_N} {Q : Option am_V → am_N → Prop} (hn0 : 0 ≤ ν 83 14) (hn1 : ν 83 14 ≤ 4) (ht : ∀ j : Nat, (j : Int) < ν 83 14 → -2147483648 ≤ ν 99 j ∧ ν 99 j ≤ 2147483647) (k : ∀ μ' : am_N, (∀ a b, a ≠ 100 → μ' a b = ν a b) → am_isord μ' 100 (ν 99) (ν 83 14) → (sx_3 ν 100 → sx_3 μ' 100) → Q none μ') : am_Does l 165 [.inr (.inr 83)] ν Q := by
  refine am_Does_of (Nat.le_of_ble_eq_true rfl) (Nat.le_of_ble_eq_true rfl) (Nat.le_of_ble_eq_true rfl) ?_
  have lp12 : ∀ (m : Nat) (r k : Int) (μ : am_N) , (∀ a b, a ≠ 100 → μ a b = ν a b) → 0 ≤ r → r < ν 83 14 → 0 ≤ k → k ≤ r → am_gap μ 100 (ν 99) r.toNat k → (∀ (k : Int) (μ : am_N), (∀ a b, a ≠ 100 → μ a b = ν a b) → (∀ i : Nat, i < (r + 1).toNat → μ 100 (am_cnt (ν 99) i (r + 1).toNat).toNat = i) → (sx_3 ν 100 → sx_3 μ 100) → am_AW l 0 (fun _ => 0) 165 Q 2 [some (.inr (.inr 83)), some (.inl (r + 1)), some (.inl k)] [] μ) → (sx_3 ν 100 → sx_3 μ 100) → k < (m : Int) → am_AW l 0 (fun _ => 0) 165 Q 12 [some (.inr (.inr 83)), some (.inl r), some (.inl k)] [] μ := by
    intro m
    induction m with
    | zero =>
      intro r k μ hv0 hv1 hv2 hv3 hv4 hv5 hv6 hv7 hm
      exfalso
      omega
    | succ m ih =>
      intro r k μ hv0 hv1 hv2 hv3 hv4 hv5 hv6 hv7 hm
      have en : μ 83 14 = ν 83 14 := hv0 83 14 (by decide)
      have et : ∀ b, μ 99 b = ν 99 b := fun b => hv0 99 b (by decide)
      have cr : am_c r = r := am_cR (by omega) (by omega)
      have ck : am_c k = k := am_cR (by omega) (by omega)
      have ck1 : 0 < k → am_c (k - 1) = k - 1 := fun _ => am_cR (by omega) (by omega)
      have gb : 0 < k → (0 ≤ μ 100 (k - 1).toNat ∧ μ 100 (k - 1).toNat ≤ 3 ∧ μ 100 (k - 1).toNat < ν 83 14) := fun q => by
        obtain ⟨i, a, _, c⟩ := am_gap_b (by omega) hv5 q (by omega)
        omega
      have cv : 0 < k → am_c (μ 100 (k - 1).toNat) = μ 100 (k - 1).toNat := fun q => by
        have := gb q
        exact am_cR (by omega) (by omega)
      have ct : 0 < k → am_c (ν 99 (μ 100 (k - 1).toNat).toNat) = ν 99 (μ 100 (k - 1).toNat).toNat := fun q => by
        have := gb q
        have := ht (μ 100 (k - 1).toNat).toNat (by omega)
        exact am_cR (by omega) (by omega)
      have tr := ht r.toNat (by omega)
      have ctr : am_c (ν 99 r.toNat) = ν 99 r.toNat := am_cR (by omega) (by omega)
      have er : (r + 1).toNat = r.toNat + 1 := by omega
      refine am_go (ct := fun pc => Nat.beq pc 12 || Nat.beq pc 2) am_oX7_sorts 300 ?_
      conv => whnf
      repeat' first
        | (refine (?_ : am_wp _ _ _ _ _ _ _ _ _ _ _ _); conv => whnf)
        | (refine (?_ : am_sw _ _ _ _); conv => whnf)
        | refine And.intro trivial ?_
        | exact trivial
        | refine hv6 _ _ ?_ ?_ ?_
        | refine ih _ _ _ ?_ ?_ ?_ ?_ ?_ ?_ ?_ ?_ ?_
        | refine And.intro (fun h => absurd h (by decide)) (fun _ => ?_)
        | refine And.intro (fun _ => ?_) (fun h => absurd (by decide) h)
        | refine And.intro (fun _ => ?_) (fun _ => ?_)
        | refine And.intro ?_ ?_
      all_goals (first | decide | assumption | omega | (simp only [en, cr, ck] at *; omega) | (intro a b ha; rw [am_upN ha]; exact hv0 a b ha) | (intro hb; exact sx_3S (hv7 hb) (by omega) (by omega)) | (intro hb; have q : 0 < k := (by clear ck1 gb cv ct; omega); have g := gb q; have e1 := ck1 q; clear ck1 gb cv ct; rw [e1]; exact sx_3S (hv7 hb) g.1 g.2.1) | (have q : 0 < k := (by simp only [ck] at *; omega); have g := gb q; have e1 := ck1 q; have e2 := cv q; have e3 := ct q; clear ck1 gb cv ct; first | (simp only [en, cr, ck, e1, e2, e3, et, ctr] at *; omega) | (refine am_gap1e (by omega) hv5 q (by omega) (by rw [ck]) (by rw [e1]) (by omega) ?_; simp only [en, cr, ck, e1, e2, e3, et, ctr] at *; omega)) | (refine am_gap2e (by omega) hv5 hv3 (by omega) (by rw [ck]) (by omega) er ?_; intro q; have g := gb q; have e1 := ck1 q; have e2 := cv q; have e3 := ct q; clear ck1 gb cv ct; simp only [en, cr, ck, e1, e2, e3, et, ctr] at *; omega) | (trace_state; fail))
  have lp12' : ∀ (r k : Int) (μ : am_N) , (∀ a b, a ≠ 100 → μ a b = ν a b) → 0 ≤ r → r < ν 83 14 → 0 ≤ k → k ≤ r → am_gap μ 100 (ν 99) r.toNat k → (∀ (k : Int) (μ : am_N), (∀ a b, a ≠ 100 → μ a b = ν a b) → (∀ i : Nat, i < (r + 1).toNat → μ 100 (am_cnt (ν 99) i (r + 1).toNat).toNat = i) → (sx_3 ν 100 → sx_3 μ 100) → am_AW l 0 (fun _ => 0) 165 Q 2 [some (.inr (.inr 83)), some (.inl (r + 1)), some (.inl k)] [] μ) → (sx_3 ν 100 → sx_3 μ 100) → am_AW l 0 (fun _ => 0) 165 Q 12 [some (.inr (.inr 83)), some (.inl r), some (.inl k)] [] μ := fun r k μ hv0 hv1 hv2 hv3 hv4 hv5 hv6 hv7 => lp12 ((k) + 1).toNat r k μ hv0 hv1 hv2 hv3 hv4 hv5 hv6 hv7 (by omega)
  have lp2 : ∀ (m : Nat) (r : Int) (o2 : Option am_V) (μ : am_N) , (∀ a b, a ≠ 100 → μ a b = ν a b) → 0 ≤ r → r ≤ ν 83 14 → (∀ i : Nat, i < r.toNat → μ 100 (am_cnt (ν 99) i r.toNat).toNat = i) → (sx_3 ν 100 → sx_3 μ 100) → ν 83 14 - r < (m : Int) → am_AW l 0 (fun _ => 0) 165 Q 2 [some (.inr (.inr 83)), some (.inl r), o2] [] μ := by
    intro m
    induction m with
    | zero =>
      intro r o2 μ hv0 hv1 hv2 hv3 hv4 hm
      exfalso
      omega
    | succ m ih =>
      intro r o2 μ hv0 hv1 hv2 hv3 hv4 hm
      have en : μ 83 14 = ν 83 14 := hv0 83 14 (by decide)
      have ci : am_c r = r := am_cR (by omega) (by omega)
      have cn : am_c (ν 83 14) = ν 83 14 := am_cR (by omega) (by omega)
      refine am_go (ct := fun pc => Nat.beq pc 12 || Nat.beq pc 2) am_oX7_sorts 300 ?_
      conv => whnf
      repeat' first
        | (refine (?_ : am_wp _ _ _ _ _ _ _ _ _ _ _ _); conv => whnf)
        | (refine (?_ : am_sw _ _ _ _); conv => whnf)
        | refine And.intro trivial ?_
        | exact trivial
        | refine k _ ?_ ?_ ?_
        | refine ih _ _ _ ?_ ?_ ?_ ?_ ?_ ?_
        | refine lp12' _ _ _ ?_ ?_ ?_ ?_ ?_ ?_ ?_ ?_
        | refine And.intro (fun h => absurd h (by decide)) (fun _ => ?_)
        | refine And.intro (fun _ => ?_) (fun h => absurd (by decide) h)
        | refine And.intro (fun _ => ?_) (fun _ => ?_)
        | refine And.intro ?_ ?_
      all_goals (first | decide | assumption | rfl | omega | (simp only [en, ci, cn] at *; omega) | (have rn : r = ν 83 14 := (by simp only [en, ci, cn] at *; omega); intro q hq; have z := hv3 q (by omega); rw [rn] at z; exact z) | (have z := am_gap0 (c := 100) (fun i hi => hv3 i hi); rw [show ((r.toNat : Nat) : Int) = r by omega] at z; exact z) | (intros; refine ih _ _ _ ?_ ?_ ?_ ?_ ?_ ?_ <;> first | assumption | omega | (simp only [en, ci, cn] at *; omega)) | (trace_state; fail))
  have lp2' : ∀ (r : Int) (o2 : Option am_V) (μ : am_N) , (∀ a b, a ≠ 100 → μ a b = ν a b) → 0 ≤ r → r ≤ ν 83 14 → (∀ i : Nat, i < r.toNat → μ 100 (am_cnt (ν 99) i r.toNat).toNat = i) → (sx_3 ν 100 → sx_3 μ 100) → am_AW l 0 (fun _ => 0) 165 Q 2 [some (.inr (.inr 83)), some (.inl r), o2] [] μ := fun r o2 μ hv0 hv1 hv2 hv3 hv4 => lp2 ((ν 83 14 - r) + 1).toNat r o2 μ hv0 hv1 hv2 hv3 hv4 (by omega)
  refine am_go (ct := fun pc => Nat.beq pc 12 || Nat.beq pc 2) am_oX7_sorts 300 ?_
  conv => whnf
  repeat' first
    | (refine (?_ : am_wp _ _ _ _ _ _ _ _ _ _ _ _); conv => whnf)
    | (refine (?_ : am_sw _ _ _ _); conv => whnf)
    | refine And.intro trivial ?_
    | exact trivial
    | refine lp2' _ _ _ ?_ ?_ ?_ ?_ ?_
    | refine lp12' _ _ _ ?_ ?_ ?_ ?_ ?_ ?_ ?_ ?_
    | refine And.intro (fun h => absurd h (by decide)) (fun _ => ?_)
    | refine And.intro (fun _ => ?_) (fun h => absurd (by decide) h)
    | refine And.intro (fun _ => ?_) (fun _ => ?_)
    | refine And.intro ?_ ?_
  all_goals (first | decide | assumption | omega | exact fun _ _ _ => rfl | exact fun z => z | (intros; omega) | (trace_state; fail))
