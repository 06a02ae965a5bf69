theorem am_gap1e {μ : am_N} {c : Nat} {t : Nat → Int} {r : Nat} {k k' v : Int} {j : Nat} (hr : r ≤ 3) (h : am_gap μ c t r k) (k0 : 0 < k) (k1 : k ≤ r) (hj : j = k.toNat) (hv : v = μ c (k - 1).toNat) (hk : k' = k - 1) (ht : t r < t v.toNat) : am_gap (am_up μ c j v) c t r k' := by
  subst hj; subst hv; subst hk; exact am_gap1 hr h k0 k1 ht
theorem am_gap2e {μ : am_N} {c : Nat} {t : Nat → Int} {r : Nat} {k v : Int} {j r1 : Nat} (hr : r ≤ 3) (h : am_gap μ c t r k) (k0 : 0 ≤ k) (k1 : k ≤ r) (hj : j = k.toNat) (hv : v = r) (h1 : r1 = r + 1) (ht : 0 < k → t (μ c (k - 1).toNat).toNat ≤ t r) : ∀ i : Nat, i < r1 → am_up μ c j v c (am_cnt t i r1).toNat = i := by
  subst hj; subst hv; subst h1; exact am_gap2 hr h k0 k1 ht
/-- somebody is put at his place -/
theorem am_put {μ : am_N} {c : Nat} {t : Nat → Int} {i v : Int} {n p : Nat} (h0 : 0 ≤ i) (hi : i < n) (h : ∀ q : Nat, (q : Int) < i → μ c (am_cnt t q n).toNat = q) (hp : p = (am_cnt t i.toNat n).toNat) (hv : v = i) : ∀ q : Nat, (q : Int) < i + 1 → am_up μ c p v c (am_cnt t q n).toNat = q := by
  subst hp; subst hv
  intro q hq
  by_cases e : (q : Int) = v
  · rw [show v.toNat = q by omega, e.symm]
    exact if_pos ⟨rfl, rfl⟩
  · have ne := am_cnt_ne t (i := q) (j := v.toNat) (m := n) (by omega) (by omega) (by omega)
    have b1 := am_cnt_b t q n
    have b2 := am_cnt_b t v.toNat n
    rw [show am_up μ c (am_cnt t v.toNat n).toNat v c (am_cnt t q n).toNat = μ c (am_cnt t q n).toNat from if_neg (fun w => by have := w.2; omega)]
    exact h q (by omega)
/-- the places in the cell c are the order by the times t of n -/
def am_isord (μ : am_N) (c : Nat) (t : Nat → Int) (n : Int) : Prop := ∀ i : Nat, (i : Int) < n → μ c (am_cnt t i n.toNat).toNat = i
theorem x_line {l : Launch} {ν : am_N} {Q : Option am_V → am_N → Prop} (hn0 : 0 ≤ ν 29 0) (hn1 : ν 29 0 ≤ 4) (ht : ∀ j : Nat, (j : Int) < ν 29 0 → -2147483648 ≤ ν 33 j ∧ ν 33 j ≤ 2147483647) (k : ∀ μ' : am_N, (∀ a b, a ≠ 34 → μ' a b = ν a b) → am_isord μ' 34 (ν 33) (ν 29 0) → (sx_3 ν 34 → sx_3 μ' 34) → Q none μ') : am_Does l 36 [.inr (.inr 29)] ν Q := by
  refine am_Does_of (Nat.le_of_ble_eq_true rfl) (Nat.le_of_ble_eq_true rfl) (Nat.le_of_ble_eq_true rfl) ?_
  have lp14 : ∀ (m : Nat) (i p j : Int) (μ : am_N) , (∀ a b, a ≠ 34 → μ a b = ν a b) → 0 ≤ i → i < ν 29 0 → 0 ≤ j → j ≤ ν 29 0 → p = am_cnt (ν 33) i.toNat j.toNat → (∀ q : Nat, (q : Int) < i → μ 34 (am_cnt (ν 33) q (ν 29 0).toNat).toNat = q) → (∀ (p j : Int) (μ : am_N), (∀ a b, a ≠ 34 → μ a b = ν a b) → (∀ q : Nat, (q : Int) < i + 1 → μ 34 (am_cnt (ν 33) q (ν 29 0).toNat).toNat = q) → (sx_3 ν 34 → sx_3 μ 34) → am_AW l 0 (fun _ => 0) 36 Q 2 [some (.inr (.inr 29)), some (.inl (i + 1)), some (.inl p), some (.inl j)] [] μ) → (sx_3 ν 34 → sx_3 μ 34) → ν 29 0 - j < (m : Int) → am_AW l 0 (fun _ => 0) 36 Q 14 [some (.inr (.inr 29)), some (.inl i), some (.inl p), some (.inl j)] [] μ := by
    intro m
    induction m with
    | zero =>
      intro i p j μ hv0 hv1 hv2 hv3 hv4 hv5 hv6 hv7 hv8 hm
      exfalso
      omega
    | succ m ih =>
      intro i p j μ hv0 hv1 hv2 hv3 hv4 hv5 hv6 hv7 hv8 hm
      have en : μ 29 0 = ν 29 0 := hv0 29 0 (by decide)
      have et : ∀ b, μ 33 b = ν 33 b := fun b => hv0 33 b (by decide)
      have ci : am_c i = i := am_cR (by omega) (by omega)
      have cj : am_c j = j := am_cR (by omega) (by omega)
      have cn : am_c (ν 29 0) = ν 29 0 := am_cR (by omega) (by omega)
      have ti := ht i.toNat (by omega)
      have cti : am_c (ν 33 i.toNat) = ν 33 i.toNat := am_cR (by omega) (by omega)
      have ctj : j < ν 29 0 → am_c (ν 33 j.toNat) = ν 33 j.toNat := fun q => by have := ht j.toNat (by omega); exact am_cR (by omega) (by omega)
      have ej : (j + 1).toNat = j.toNat + 1 := by omega
      have pb := am_cnt_b (ν 33) i.toNat j.toNat
      have cp : am_c p = p := am_cR (by omega) (by omega)
      have pl : j = ν 29 0 → p ≤ ν 29 0 - 1 := fun q => by
        have z := am_cnt_l (ν 33) i.toNat (ν 29 0).toNat (by omega)
        rw [hv5, q]
        omega
      refine am_go (ct := fun pc => Nat.beq pc 14 || Nat.beq pc 2) am_oX2_line 300 ?_
      conv => whnf
      repeat' first
        | (refine (?_ : am_wp _ _ _ _ _ _ _ _ _ _ _ _); conv => whnf)
        | (refine (?_ : am_sw _ _ _ _); conv => whnf)
        | refine And.intro trivial ?_
        | exact trivial
        | refine hv7 _ _ _ ?_ ?_ ?_
        | ((with_reducible refine (?_ : am_AW _ _ _ _ _ 14 _ _ _)); refine ih _ _ _ _ ?_ ?_ ?_ ?_ ?_ ?_ ?_ ?_ ?_ ?_)
        | refine And.intro (fun h => absurd h (by decide)) (fun _ => ?_)
        | refine And.intro (fun _ => ?_) (fun h => absurd (by decide) h)
        | refine And.intro (fun _ => ?_) (fun _ => ?_)
        | refine And.intro ?_ ?_
      all_goals (first | decide | assumption | omega | (simp only [en, ci, cj, cp, cn] at *; omega) | (intro a b ha; rw [am_upN ha]; exact hv0 a b ha) | (intro hb; exact sx_3S (hv8 hb) hv1 (by omega)) | (have en2 : j = ν 29 0 := (by simp only [en, ci, cj, cn] at *; omega); refine am_put hv1 (by omega) hv6 ?_ rfl; rw [cp, hv5, en2]) | (have jn : j < ν 29 0 := (by simp only [en, ci, cj, cn] at *; omega); have ct := ctj jn; simp only [ej, am_cnt, en, ci, cj, cn, et, cti, ct] at *; (first | rw [if_pos (by omega)] | rw [if_neg (by omega)]); omega) | (trace_state; fail))
  have lp14' : ∀ (i p j : Int) (μ : am_N) , (∀ a b, a ≠ 34 → μ a b = ν a b) → 0 ≤ i → i < ν 29 0 → 0 ≤ j → j ≤ ν 29 0 → p = am_cnt (ν 33) i.toNat j.toNat → (∀ q : Nat, (q : Int) < i → μ 34 (am_cnt (ν 33) q (ν 29 0).toNat).toNat = q) → (∀ (p j : Int) (μ : am_N), (∀ a b, a ≠ 34 → μ a b = ν a b) → (∀ q : Nat, (q : Int) < i + 1 → μ 34 (am_cnt (ν 33) q (ν 29 0).toNat).toNat = q) → (sx_3 ν 34 → sx_3 μ 34) → am_AW l 0 (fun _ => 0) 36 Q 2 [some (.inr (.inr 29)), some (.inl (i + 1)), some (.inl p), some (.inl j)] [] μ) → (sx_3 ν 34 → sx_3 μ 34) → am_AW l 0 (fun _ => 0) 36 Q 14 [some (.inr (.inr 29)), some (.inl i), some (.inl p), some (.inl j)] [] μ := fun i p j μ hv0 hv1 hv2 hv3 hv4 hv5 hv6 hv7 hv8 => lp14 ((ν 29 0 - j) + 1).toNat i p j μ hv0 hv1 hv2 hv3 hv4 hv5 hv6 hv7 hv8 (by omega)
  have lp2 : ∀ (m : Nat) (i : Int) (o2 o3 : Option am_V) (μ : am_N) , (∀ a b, a ≠ 34 → μ a b = ν a b) → 0 ≤ i → i ≤ ν 29 0 → (∀ q : Nat, (q : Int) < i → μ 34 (am_cnt (ν 33) q (ν 29 0).toNat).toNat = q) → (sx_3 ν 34 → sx_3 μ 34) → ν 29 0 - i < (m : Int) → am_AW l 0 (fun _ => 0) 36 Q 2 [some (.inr (.inr 29)), some (.inl i), o2, o3] [] μ := by
    intro m
    induction m with
    | zero =>
      intro i o2 o3 μ hv0 hv1 hv2 hv3 hv4 hm
      exfalso
      omega
    | succ m ih =>
      intro i o2 o3 μ hv0 hv1 hv2 hv3 hv4 hm
      have en : μ 29 0 = ν 29 0 := hv0 29 0 (by decide)
      have ci : am_c i = i := am_cR (by omega) (by omega)
      have cn : am_c (ν 29 0) = ν 29 0 := am_cR (by omega) (by omega)
      refine am_go (ct := fun pc => Nat.beq pc 14 || Nat.beq pc 2) am_oX2_line 300 ?_
      conv => whnf
      repeat' first
        | (refine (?_ : am_wp _ _ _ _ _ _ _ _ _ _ _ _); conv => whnf)
        | (refine (?_ : am_sw _ _ _ _); conv => whnf)
        | refine And.intro trivial ?_
        | exact trivial
        | refine k _ ?_ ?_ ?_
        | ((with_reducible refine (?_ : am_AW _ _ _ _ _ 2 _ _ _)); refine ih _ _ _ _ ?_ ?_ ?_ ?_ ?_ ?_)
        | ((with_reducible refine (?_ : am_AW _ _ _ _ _ 14 _ _ _)); refine lp14' _ _ _ _ ?_ ?_ ?_ ?_ ?_ ?_ ?_ ?_ ?_)
        | refine And.intro (fun h => absurd h (by decide)) (fun _ => ?_)
        | refine And.intro (fun _ => ?_) (fun h => absurd (by decide) h)
        | refine And.intro (fun _ => ?_) (fun _ => ?_)
        | refine And.intro ?_ ?_
      all_goals (first | decide | assumption | rfl | omega | (simp only [en, ci, cn] at *; omega) | (intro q hq; exact hv3 q (by simp only [en, ci, cn] at *; omega)) | (intros; refine ih _ _ _ _ ?_ ?_ ?_ ?_ ?_ ?_ <;> first | assumption | omega | (simp only [en, ci, cn] at *; omega)) | (trace_state; fail))
  have lp2' : ∀ (i : Int) (o2 o3 : Option am_V) (μ : am_N) , (∀ a b, a ≠ 34 → μ a b = ν a b) → 0 ≤ i → i ≤ ν 29 0 → (∀ q : Nat, (q : Int) < i → μ 34 (am_cnt (ν 33) q (ν 29 0).toNat).toNat = q) → (sx_3 ν 34 → sx_3 μ 34) → am_AW l 0 (fun _ => 0) 36 Q 2 [some (.inr (.inr 29)), some (.inl i), o2, o3] [] μ := fun i o2 o3 μ hv0 hv1 hv2 hv3 hv4 => lp2 ((ν 29 0 - i) + 1).toNat i o2 o3 μ hv0 hv1 hv2 hv3 hv4 (by omega)
  refine am_go (ct := fun pc => Nat.beq pc 14 || Nat.beq pc 2) am_oX2_line 300 ?_
  conv => whnf
  repeat' first
    | (refine (?_ : am_wp _ _ _ _ _ _ _ _ _ _ _ _); conv => whnf)
    | (refine (?_ : am_sw _ _ _ _); conv => whnf)
    | refine And.intro trivial ?_
    | exact trivial
    | ((with_reducible refine (?_ : am_AW _ _ _ _ _ 2 _ _ _)); refine lp2' _ _ _ _ ?_ ?_ ?_ ?_ ?_)
    | ((with_reducible refine (?_ : am_AW _ _ _ _ _ 14 _ _ _)); refine lp14' _ _ _ _ ?_ ?_ ?_ ?_ ?_ ?_ ?_ ?_ ?_)
    | refine And.intro (fun h => absurd h (by decide)) (fun _ => ?_)
    | refine And.intro (fun _ => ?_) (fun h => absurd (by decide) h)
    | refine And.intro (fun _ => ?_) (fun _ => ?_)
    | refine And.intro ?_ ?_
  all_goals (first | decide | assumption | omega | exact fun _ _ _ => rfl | exact fun z => z | (intros; omega) | (trace_state; fail))
