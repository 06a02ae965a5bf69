/-! what the model has told of a STATEMENT -/
def fp_td (t : Nat → Int) (n p : Int) (w : Nat → Int) (o : Nat) : Prop :=
  (am_nx t n p = 119 → w o = fp_w t n p) ∧
  (am_nx t n p = 114 → w o = am_dt t n (p + 1) ∧ w (o + 1) = am_dt t n (p + 2) ∧ w (o + 2) = fp_2 t n (p + 3) ∧ w (o + 3) = fp_2 t n (p + 5) ∧ w (o + 4) = fp_2 t n (p + 7)) ∧
  (am_nx t n p = 109 → w o = am_dt t n (p + 1) ∧ w (o + 1) = am_dt t n (p + 2)) ∧
  (am_nx t n p = 115 → w o = am_dt t n (p + 1) ∧ w (o + 1) = fp_2 t n (p + 2))
theorem fp_td_e {t : Nat → Int} {n p : Int} {w u : Nat → Int} {o : Nat} (h : fp_td t n p w o) (e : ∀ i : Nat, o ≤ i → i < o + 5 → u i = w i) : fp_td t n p u o := by
  obtain ⟨h1, h2, h3, h4⟩ := h
  unfold fp_td
  rw [e o (by omega) (by omega), e (o + 1) (by omega) (by omega), e (o + 2) (by omega) (by omega), e (o + 3) (by omega) (by omega), e (o + 4) (by omega) (by omega)]
  exact ⟨h1, h2, h3, h4⟩
theorem am_dv_2d {t : Nat → Int} {n q : Int} (h : am_dn t n 2 q = q + 2) : am_dv t n 2 q 0 = fp_2 t n q := by
  have a := am_dn_d t n 2 q h 0 (by decide)
  have b := am_dn_d t n 2 q h 1 (by decide)
  exact am_dv_2 t n q (by simpa using a) b
theorem am_dv_1d {t : Nat → Int} {n q : Int} (h : am_dn t n 1 q = q + 1) : am_dv t n 1 q 0 = am_dt t n q := by
  have a := am_dn_d t n 1 q h 0 (by decide)
  exact am_dv_1 t n q (by simpa using a)
theorem am_dn2_1 {t : Nat → Int} {n a : Int} (e1 : am_dn t n 1 a ≠ a + 1) : am_dn t n 2 a = am_dn t n 1 a := am_dn_x (m := 1) 1 e1
theorem am_dn2_2 {t : Nat → Int} {n a : Int} (e1 : am_dn t n 1 a = a + 1) : am_dn t n 2 a = am_dn t n 1 (a + 1) := am_dn_o (m := 1) 1 e1
theorem am_dn3_1 {t : Nat → Int} {n a : Int} (e1 : am_dn t n 1 a ≠ a + 1) : am_dn t n 3 a = am_dn t n 1 a := am_dn_x (m := 1) 2 e1
theorem am_dn3_2 {t : Nat → Int} {n a : Int} (e1 : am_dn t n 1 a = a + 1) : am_dn t n 3 a = am_dn t n 2 (a + 1) := am_dn_o (m := 1) 2 e1
theorem x_next {l : Launch} {ν : am_N} {Q : Option am_V → am_N → Prop} (t : Nat → Int) (n q : Int) (ht : ν 94 = t) (hn : ν 83 21 = n) (hq : ν 83 22 = q) (n0 : 0 ≤ n) (n1 : n ≤ 96) (hL : ∀ i : Nat, (i : Int) < n → 0 ≤ t i ∧ t i ≤ 255) (a0 : 0 ≤ q) (a1 : q ≤ 200) (k : ∀ v : Int, v = am_nx t n q → -1 ≤ v → v ≤ 255 → am_c v = v → Q (some (.inl v)) ν) : am_Does l 149 [.inr (.inr 83)] ν Q := by
  refine am_Does_of (Nat.le_of_ble_eq_true rfl) (Nat.le_of_ble_eq_true rfl) (Nat.le_of_ble_eq_true rfl) ?_
  have l0 : am_c 0 = 0 := rfl
  have l1 : am_c 1 = 1 := rfl
  have l2 : am_c 2 = 2 := rfl
  have l3 : am_c 3 = 3 := rfl
  have l4 : am_c 4 = 4 := rfl
  have l5 : am_c 5 = 5 := rfl
  have l8 : am_c 8 = 8 := rfl
  have l10 : am_c 10 = 10 := rfl
  have l20 : am_c 20 = 20 := rfl
  have l40 : am_c 40 = 40 := rfl
  have l48 : am_c 48 = 48 := rfl
  have l57 : am_c 57 = 57 := rfl
  have l59 : am_c 59 = 59 := rfl
  have l103 : am_c 103 = 103 := rfl
  have l109 : am_c 109 = 109 := rfl
  have l114 : am_c 114 = 114 := rfl
  have l115 : am_c 115 = 115 := rfl
  have l119 : am_c 119 = 119 := rfl
  have l200 : am_c 200 = 200 := rfl
  have l999 : am_c 999 = 999 := rfl
  have ca : am_c (ν 83 22) = q := by rw [hq]; exact am_cR (by omega) (by omega)
  have cn : am_c (ν 83 21) = n := by rw [hn]; exact am_cR (by omega) (by omega)
  have hb := am_nx_b hL q
  have kk := k _ rfl hb.1 hb.2 (am_cR (by omega) (by omega))
  clear hb
  refine am_go (ct := fun _ => false) am_oX7_next 300 ?_
  conv => whnf
  repeat' first
    | (refine (?_ : am_wp _ _ _ _ _ _ _ _ _ _ _ _); conv => whnf)
    | (refine (?_ : am_sw _ _ _ _); conv => whnf)
    | refine And.intro trivial ?_
    | exact trivial
    | refine am_qe kk ?_
    | refine And.intro (fun h => absurd h (by decide)) (fun _ => ?_)
    | refine And.intro (fun _ => ?_) (fun h => absurd (by decide) h)
    | refine And.intro (fun _ => ?_) (fun _ => ?_)
    | refine And.intro ?_ ?_
  all_goals (first | decide | omega | (simp only [ca, cn] at *; omega) | (unfold am_nx; rw [if_pos (by simp only [ca, cn] at *; omega), ca, ht]) | (unfold am_nx; rw [if_neg (by simp only [ca, cn] at *; omega)]) | (trace_state; fail))
theorem x_isIn {l : Launch} {μ : am_N} {Q : Option am_V → am_N → Prop} (w v a b : Int) (e : w = v) (cv : am_c w = w) (ca : am_c a = a) (cb : am_c b = b) (k1 : a ≤ w → w ≤ b → Q (some (.inl 1)) μ) (k2 : w < a ∨ b < w → Q (some (.inl 0)) μ) : am_Does l 143 [.inl v, .inl a, .inl b] μ Q := by
  refine am_Does_of (Nat.le_of_ble_eq_true rfl) (Nat.le_of_ble_eq_true rfl) (Nat.le_of_ble_eq_true rfl) ?_
  subst e
  refine am_go (ct := fun _ => false) am_oX7_isIn 300 ?_
  conv => whnf
  repeat' first
    | (refine (?_ : am_wp _ _ _ _ _ _ _ _ _ _ _ _); conv => whnf)
    | (refine (?_ : am_sw _ _ _ _); conv => whnf)
    | refine And.intro trivial ?_
    | exact trivial
    | refine k1 ?_ ?_
    | refine k2 ?_
    | refine And.intro (fun h => absurd h (by decide)) (fun _ => ?_)
    | refine And.intro (fun _ => ?_) (fun h => absurd (by decide) h)
    | refine And.intro (fun _ => ?_) (fun _ => ?_)
    | refine And.intro ?_ ?_
  all_goals (first | omega | (trace_state; fail))
theorem x_readsNumber {l : Launch} {ν : am_N} {Q : Option am_V → am_N → Prop} (t : Nat → Int) (n q o s M : Int) (ht : ν 94 = t) (hn : ν 83 21 = n) (hq : ν 83 22 = q) (n0 : 0 ≤ n) (n1 : n ≤ 96) (hL : ∀ i : Nat, (i : Int) < n → 0 ≤ t i ∧ t i ≤ 255) (o0 : 0 ≤ o) (o1 : o < 240) (s0 : 0 ≤ s) (s1 : s ≤ 9) (m0 : 0 ≤ M) (m1 : M ≤ 3) (a0 : 0 ≤ q) (a1 : q ≤ 150) (k : ∀ (e : Int) (μ' : am_N), e = am_dn t n M.toNat q → q ≤ e → e ≤ q + M → (∀ a b, ¬(a = 83 ∧ b = 22) → ¬(a = 97 ∧ b = o.toNat) → μ' a b = ν a b) → μ' 83 22 = e → μ' 97 o.toNat = am_dv t n M.toNat q 0 → Q (some (.inl (if s ≤ e - q then 1 else 0))) μ') : am_Does l 150 [.inr (.inr 83), .inl o, .inl s, .inl M] ν Q := by
  refine am_Does_of (Nat.le_of_ble_eq_true rfl) (Nat.le_of_ble_eq_true rfl) (Nat.le_of_ble_eq_true rfl) ?_
  have l0 : am_c 0 = 0 := rfl
  have l1 : am_c 1 = 1 := rfl
  have l2 : am_c 2 = 2 := rfl
  have l3 : am_c 3 = 3 := rfl
  have l4 : am_c 4 = 4 := rfl
  have l5 : am_c 5 = 5 := rfl
  have l8 : am_c 8 = 8 := rfl
  have l10 : am_c 10 = 10 := rfl
  have l20 : am_c 20 = 20 := rfl
  have l40 : am_c 40 = 40 := rfl
  have l48 : am_c 48 = 48 := rfl
  have l57 : am_c 57 = 57 := rfl
  have l59 : am_c 59 = 59 := rfl
  have l103 : am_c 103 = 103 := rfl
  have l109 : am_c 109 = 109 := rfl
  have l114 : am_c 114 = 114 := rfl
  have l115 : am_c 115 = 115 := rfl
  have l119 : am_c 119 = 119 := rfl
  have l200 : am_c 200 = 200 := rfl
  have l999 : am_c 999 = 999 := rfl
  have co : am_c o = o := am_cR (by omega) (by omega)
  have cs : am_c s = s := am_cR (by omega) (by omega)
  have cM : am_c M = M := am_cR (by omega) (by omega)
  have hd := am_dn_b t n M.toNat q
  have hv := am_dv_b t n M.toNat q 0 (by decide)
  have hp : (10 : Int) ^ M.toNat ≤ 1000 := by rcases (show M.toNat = 0 ∨ M.toNat = 1 ∨ M.toNat = 2 ∨ M.toNat = 3 by omega) with h | h | h | h <;> rw [h] <;> decide
  have kk := fun (e : Int) (μ' : am_N) (x : Int) b1 b2 b3 b4 b5 b6 (g : x = (if s ≤ e - q then 1 else 0)) => am_qe (k e μ' b1 b2 b3 b4 b5 b6) g
  have lp57 : ∀ (v j : Int) (μ : am_N), (∀ a b, ¬(a = 83 ∧ b = 22) → μ a b = ν a b) → μ 83 22 = q + j → 0 ≤ j → j ≤ M → q + j = am_dn t n M.toNat q → v = am_dv t n M.toNat q 0 → am_AW l 0 (fun _ => 0) 150 Q 57 [some (.inr (.inr 83)), some (.inl o), some (.inl s), some (.inl M), some (.inl v), some (.inl j)] [] μ := by
    intro v j μ hv0 hv1 hv2 hv3 hv4 hv5
    have cj : am_c j = j := am_cR (by omega) (by omega)
    refine am_go (ct := fun pc => Nat.beq pc 57 || Nat.beq pc 6) am_oX7_readsNumber 300 ?_
    conv => whnf
    repeat' first
      | (refine (?_ : am_wp _ _ _ _ _ _ _ _ _ _ _ _); conv => whnf)
      | (refine (?_ : am_sw _ _ _ _); conv => whnf)
      | refine And.intro trivial ?_
      | exact trivial
      | refine kk (q + j) _ _ hv4 ?_ ?_ ?_ ?_ ?_ ?_
      | refine And.intro (fun h => absurd h (by decide)) (fun _ => ?_)
      | refine And.intro (fun _ => ?_) (fun h => absurd (by decide) h)
      | refine And.intro (fun _ => ?_) (fun _ => ?_)
      | refine And.intro ?_ ?_
    all_goals (first | decide | omega | (intro a b h1 h2; rw [am_uE (by rw [co]; exact h2)]; exact hv0 a b h1) | (rw [am_upN (by decide)]; exact hv1) | (rw [am_upS, if_pos ⟨rfl, by rw [co]⟩]; exact hv5) | (rw [if_pos (by omega)]) | (rw [if_neg (by omega)]) | (trace_state; fail))
  have lp6 : ∀ (m : Nat) (v j : Int) (μ : am_N) , (∀ a b, ¬(a = 83 ∧ b = 22) → μ a b = ν a b) → μ 83 22 = q + j → 0 ≤ j → j ≤ M → am_dn t n (M - j).toNat (q + j) = am_dn t n M.toNat q → am_dv t n (M - j).toNat (q + j) v = am_dv t n M.toNat q 0 → 0 ≤ v → M - j < (m : Int) → am_AW l 0 (fun _ => 0) 150 Q 6 [some (.inr (.inr 83)), some (.inl o), some (.inl s), some (.inl M), some (.inl v), some (.inl j)] [] μ := by
    intro m
    induction m with
    | zero =>
      intro v j μ hv0 hv1 hv2 hv3 hv4 hv5 hv6 hm
      exfalso
      omega
    | succ m ih =>
      intro v j μ hv0 hv1 hv2 hv3 hv4 hv5 hv6 hm
      have cj : am_c j = j := am_cR (by omega) (by omega)
      have et : μ 94 = t := (funext (fun b => hv0 94 b (by omega))).trans ht
      have en : μ 83 21 = n := (hv0 83 21 (by decide)).trans hn
      have hz := (am_dv_b t n (M - j).toNat (q + j) v hv6).1
      refine am_go (ct := fun pc => Nat.beq pc 57 || Nat.beq pc 6) am_oX7_readsNumber 300 ?_
      conv => whnf
      repeat' first
        | (refine (?_ : am_wp _ _ _ _ _ _ _ _ _ _ _ _); conv => whnf)
        | (refine (?_ : am_sw _ _ _ _); conv => whnf)
        | refine And.intro trivial ?_
        | exact trivial
        | ((with_reducible refine (?_ : am_Does _ 149 _ _ _)); refine x_next t n (q + j) ?_ ?_ ?_ n0 n1 hL ?_ ?_ (fun x ex x0 x1 cx => ?_))
        | ((with_reducible refine (?_ : am_Does _ 143 _ _ _)); refine x_isIn x _ _ _ rfl ?_ ?_ ?_ (fun _ _ => ?_) (fun _ => ?_))
        | ((with_reducible refine (?_ : am_AW _ _ _ _ _ 6 _ _ _)); refine ih _ _ _ ?_ ?_ ?_ ?_ ?_ ?_ ?_ ?_)
        | ((with_reducible refine (?_ : am_AW _ _ _ _ _ 57 _ _ _)); refine lp57 _ _ _ ?_ ?_ ?_ ?_ ?_ ?_)
        | refine And.intro (fun h => absurd h (by decide)) (fun _ => ?_)
        | refine And.intro (fun _ => ?_) (fun h => absurd (by decide) h)
        | refine And.intro (fun _ => ?_) (fun _ => ?_)
        | refine And.intro ?_ ?_
      all_goals (first | decide | assumption | omega | (intro a b h; rw [am_uE h]; exact hv0 a b h) | (rw [am_upS, if_pos ⟨rfl, rfl⟩, hv1]; omega) | (rw [← hv4]; first | exact (am_dn_z (Or.inl (by omega))).symm | exact (am_dn_z (Or.inr (by rw [am_dt_o (by omega)]; decide))).symm) | (rw [← hv5]; first | exact (am_dv_z (Or.inl (by omega))).symm | exact (am_dv_z (Or.inr (by rw [am_dt_o (by omega)]; decide))).symm) | (have w := am_dt_i (t := t) (n := n) (q := q + j) (by omega) (by omega); have w0 : 0 ≤ am_dt t n (q + j) := (by omega); have jm : j < M := (by omega); first | (rw [← hv4, am_dn_s jm w0, show q + (j + 1) = q + j + 1 by omega]) | (rw [← hv5, am_dv_s jm w0, show q + (j + 1) = q + j + 1 by omega, show (10 * v + x - 48 : Int) = 10 * v + am_dt t n (q + j) by omega])) | (trace_state; fail))
  have lp6' : ∀ (v j : Int) (μ : am_N) , (∀ a b, ¬(a = 83 ∧ b = 22) → μ a b = ν a b) → μ 83 22 = q + j → 0 ≤ j → j ≤ M → am_dn t n (M - j).toNat (q + j) = am_dn t n M.toNat q → am_dv t n (M - j).toNat (q + j) v = am_dv t n M.toNat q 0 → 0 ≤ v → am_AW l 0 (fun _ => 0) 150 Q 6 [some (.inr (.inr 83)), some (.inl o), some (.inl s), some (.inl M), some (.inl v), some (.inl j)] [] μ := fun v j μ hv0 hv1 hv2 hv3 hv4 hv5 hv6 => lp6 ((M - j) + 1).toNat v j μ hv0 hv1 hv2 hv3 hv4 hv5 hv6 (by omega)
  refine am_go (ct := fun pc => Nat.beq pc 57 || Nat.beq pc 6) am_oX7_readsNumber 300 ?_
  conv => whnf
  repeat' first
    | (refine (?_ : am_wp _ _ _ _ _ _ _ _ _ _ _ _); conv => whnf)
    | (refine (?_ : am_sw _ _ _ _); conv => whnf)
    | refine And.intro trivial ?_
    | exact trivial
    | ((with_reducible refine (?_ : am_AW _ _ _ _ _ 6 _ _ _)); refine lp6' _ _ _ ?_ ?_ ?_ ?_ ?_ ?_ ?_)
    | ((with_reducible refine (?_ : am_AW _ _ _ _ _ 57 _ _ _)); refine lp57 _ _ _ ?_ ?_ ?_ ?_ ?_ ?_)
    | refine And.intro (fun h => absurd h (by decide)) (fun _ => ?_)
    | refine And.intro (fun _ => ?_) (fun h => absurd (by decide) h)
    | refine And.intro (fun _ => ?_) (fun _ => ?_)
    | refine And.intro ?_ ?_
  all_goals (first | decide | assumption | omega | exact fun _ _ _ => rfl | (rw [show M - 0 = M by omega, show q + 0 = q by omega]) | (trace_state; fail))
/-- a number of exactly m digits: two ways on -/
theorem x_rn {l : Launch} {ν : am_N} {Q : Option am_V → am_N → Prop} (t : Nat → Int) (n q o m : Int) (ht : ν 94 = t) (hn : ν 83 21 = n) (hq : ν 83 22 = q) (n0 : 0 ≤ n) (n1 : n ≤ 96) (hL : ∀ i : Nat, (i : Int) < n → 0 ≤ t i ∧ t i ≤ 255) (o0 : 0 ≤ o) (o1 : o < 240) (m0 : 0 ≤ m) (m1 : m ≤ 3) (a0 : 0 ≤ q) (a1 : q ≤ 150)
    (k1 : ∀ μ' : am_N, (∀ a b, ¬(a = 83 ∧ b = 22) → ¬(a = 97 ∧ b = o.toNat) → μ' a b = ν a b) → am_dn t n m.toNat q = q + m → μ' 83 22 = q + m → μ' 97 o.toNat = am_dv t n m.toNat q 0 → Q (some (.inl 1)) μ')
    (k0 : ∀ μ' : am_N, (∀ a b, ¬(a = 83 ∧ b = 22) → ¬(a = 97 ∧ b = o.toNat) → μ' a b = ν a b) → am_dn t n m.toNat q ≠ q + m → μ' 83 22 = am_dn t n m.toNat q → Q (some (.inl 0)) μ') : am_Does l 150 [.inr (.inr 83), .inl o, .inl m, .inl m] ν Q := by
  refine x_readsNumber t n q o m m ht hn hq n0 n1 hL o0 o1 m0 (by omega) m0 m1 a0 a1 (fun e μ' h1 h2 h3 h4 h5 h6 => ?_)
  subst h1
  by_cases g : am_dn t n m.toNat q = q + m
  · rw [if_pos (by omega)]
    exact k1 μ' h4 g (by omega) h6
  · rw [if_neg (by omega)]
    exact k0 μ' h4 g h5
theorem x_readsRunner {l : Launch} {ν : am_N} {Q : Option am_V → am_N → Prop} (t : Nat → Int) (n q o : Int) (ht : ν 94 = t) (hn : ν 83 21 = n) (hq : ν 83 22 = q) (n0 : 0 ≤ n) (n1 : n ≤ 96) (hL : ∀ i : Nat, (i : Int) < n → 0 ≤ t i ∧ t i ≤ 255) (o0 : 0 ≤ o) (o1 : o < 236) (a0 : 0 ≤ q) (a1 : q ≤ 100) (k1 : ∀ μ' : am_N, (∀ a b, ¬(a = 83 ∧ b = 22) → ¬(a = 97 ∧ o.toNat ≤ b ∧ b < o.toNat + 5) → μ' a b = ν a b) → am_dn t n 8 q = q + 8 → μ' 83 22 = q + 8 → μ' 97 o.toNat = am_dt t n q → μ' 97 (o.toNat + 1) = am_dt t n (q + 1) → μ' 97 (o.toNat + 2) = fp_2 t n (q + 2) → μ' 97 (o.toNat + 3) = fp_2 t n (q + 4) → μ' 97 (o.toNat + 4) = fp_2 t n (q + 6) → Q (some (.inl 1)) μ') (k0 : ∀ μ' : am_N, (∀ a b, ¬(a = 83 ∧ b = 22) → ¬(a = 97 ∧ o.toNat ≤ b ∧ b < o.toNat + 5) → μ' a b = ν a b) → am_dn t n 8 q ≠ q + 8 → μ' 83 22 = am_dn t n 8 q → Q (some (.inl 0)) μ') : am_Does l 151 [.inr (.inr 83), .inl o] ν Q := by
  refine am_Does_of (Nat.le_of_ble_eq_true rfl) (Nat.le_of_ble_eq_true rfl) (Nat.le_of_ble_eq_true rfl) ?_
  have b1 := am_dn_b t n 1 q
  have b2 := am_dn_b t n 1 (q + 1)
  have b3 := am_dn_b t n 2 (q + 2)
  have b4 := am_dn_b t n 2 (q + 4)
  have b5 := am_dn_b t n 2 (q + 6)
  refine am_go (ct := fun _ => false) am_oX7_readsRunner 300 ?_
  conv => whnf
  repeat' first
    | (refine (?_ : am_wp _ _ _ _ _ _ _ _ _ _ _ _); conv => whnf)
    | (refine (?_ : am_sw _ _ _ _); conv => whnf)
    | refine And.intro trivial ?_
    | exact trivial
    | ((with_reducible refine (?_ : am_Does _ 150 _ _ _)); first | ((with_reducible refine (?_ : am_Does _ 150 (Sum.inr (Sum.inr 83) :: Sum.inl o :: Sum.inl 1 :: Sum.inl 1 :: _) _ _)); refine x_rn t n q o 1 ?_ ?_ ?_ n0 n1 hL ?_ ?_ ?_ ?_ ?_ ?_ (fun μ1 f1 e1 g1 v1 => ?_) (fun μ1 f1 e1 g1 => ?_)) | ((with_reducible refine (?_ : am_Does _ 150 (Sum.inr (Sum.inr 83) :: Sum.inl (o + 1) :: Sum.inl 1 :: Sum.inl 1 :: _) _ _)); refine x_rn t n (q + 1) (o + 1) 1 ?_ ?_ ?_ n0 n1 hL ?_ ?_ ?_ ?_ ?_ ?_ (fun μ2 f2 e2 g2 v2 => ?_) (fun μ2 f2 e2 g2 => ?_)) | ((with_reducible refine (?_ : am_Does _ 150 (Sum.inr (Sum.inr 83) :: Sum.inl (o + 2) :: Sum.inl 2 :: Sum.inl 2 :: _) _ _)); refine x_rn t n (q + 2) (o + 2) 2 ?_ ?_ ?_ n0 n1 hL ?_ ?_ ?_ ?_ ?_ ?_ (fun μ3 f3 e3 g3 v3 => ?_) (fun μ3 f3 e3 g3 => ?_)) | ((with_reducible refine (?_ : am_Does _ 150 (Sum.inr (Sum.inr 83) :: Sum.inl (o + 3) :: Sum.inl 2 :: Sum.inl 2 :: _) _ _)); refine x_rn t n (q + 4) (o + 3) 2 ?_ ?_ ?_ n0 n1 hL ?_ ?_ ?_ ?_ ?_ ?_ (fun μ4 f4 e4 g4 v4 => ?_) (fun μ4 f4 e4 g4 => ?_)) | ((with_reducible refine (?_ : am_Does _ 150 (Sum.inr (Sum.inr 83) :: Sum.inl (o + 4) :: Sum.inl 2 :: Sum.inl 2 :: _) _ _)); refine x_rn t n (q + 6) (o + 4) 2 ?_ ?_ ?_ n0 n1 hL ?_ ?_ ?_ ?_ ?_ ?_ (fun μ5 f5 e5 g5 v5 => ?_) (fun μ5 f5 e5 g5 => ?_)) | refine x_rn t n q o 1 ?_ ?_ ?_ n0 n1 hL ?_ ?_ ?_ ?_ ?_ ?_ (fun μ1 f1 e1 g1 v1 => ?_) (fun μ1 f1 e1 g1 => ?_) | refine x_rn t n (q + 1) (o + 1) 1 ?_ ?_ ?_ n0 n1 hL ?_ ?_ ?_ ?_ ?_ ?_ (fun μ2 f2 e2 g2 v2 => ?_) (fun μ2 f2 e2 g2 => ?_) | refine x_rn t n (q + 2) (o + 2) 2 ?_ ?_ ?_ n0 n1 hL ?_ ?_ ?_ ?_ ?_ ?_ (fun μ3 f3 e3 g3 v3 => ?_) (fun μ3 f3 e3 g3 => ?_) | refine x_rn t n (q + 4) (o + 3) 2 ?_ ?_ ?_ n0 n1 hL ?_ ?_ ?_ ?_ ?_ ?_ (fun μ4 f4 e4 g4 v4 => ?_) (fun μ4 f4 e4 g4 => ?_) | refine x_rn t n (q + 6) (o + 4) 2 ?_ ?_ ?_ n0 n1 hL ?_ ?_ ?_ ?_ ?_ ?_ (fun μ5 f5 e5 g5 v5 => ?_) (fun μ5 f5 e5 g5 => ?_))
    | refine k1 _ ?_ ?_ ?_ ?_ ?_ ?_ ?_ ?_
    | refine k0 _ ?_ ?_ ?_
    | refine And.intro (fun h => absurd h (by decide)) (fun _ => ?_)
    | refine And.intro (fun _ => ?_) (fun h => absurd (by decide) h)
    | refine And.intro (fun _ => ?_) (fun _ => ?_)
    | refine And.intro ?_ ?_
  all_goals (first | decide | exact ht | exact hn | exact hq | omega | (rw [g5]; omega) | (rw [g4]; omega) | (rw [g3]; omega) | (rw [g2]; omega) | (rw [g1]; omega) | (intro b c h1 h2; rw [f5 _ _ (by omega) (by omega)]; rw [f4 _ _ (by omega) (by omega)]; rw [f3 _ _ (by omega) (by omega)]; rw [f2 _ _ (by omega) (by omega)]; rw [f1 _ _ (by omega) (by omega)]) | (intro b c h1 h2; rw [f4 _ _ (by omega) (by omega)]; rw [f3 _ _ (by omega) (by omega)]; rw [f2 _ _ (by omega) (by omega)]; rw [f1 _ _ (by omega) (by omega)]) | (intro b c h1 h2; rw [f3 _ _ (by omega) (by omega)]; rw [f2 _ _ (by omega) (by omega)]; rw [f1 _ _ (by omega) (by omega)]) | (intro b c h1 h2; rw [f2 _ _ (by omega) (by omega)]; rw [f1 _ _ (by omega) (by omega)]) | (intro b c h1 h2; rw [f1 _ _ (by omega) (by omega)]) | (refine Eq.trans (funext fun b => ?_) ht; rw [f4 _ _ (by omega) (by omega)]; rw [f3 _ _ (by omega) (by omega)]; rw [f2 _ _ (by omega) (by omega)]; rw [f1 _ _ (by omega) (by omega)]) | (refine Eq.trans (funext fun b => ?_) ht; rw [f3 _ _ (by omega) (by omega)]; rw [f2 _ _ (by omega) (by omega)]; rw [f1 _ _ (by omega) (by omega)]) | (refine Eq.trans (funext fun b => ?_) ht; rw [f2 _ _ (by omega) (by omega)]; rw [f1 _ _ (by omega) (by omega)]) | (refine Eq.trans (funext fun b => ?_) ht; rw [f1 _ _ (by omega) (by omega)]) | (rw [f4 _ _ (by omega) (by omega)]; rw [f3 _ _ (by omega) (by omega)]; rw [f2 _ _ (by omega) (by omega)]; rw [f1 _ _ (by omega) (by omega)]; exact hn) | (rw [f3 _ _ (by omega) (by omega)]; rw [f2 _ _ (by omega) (by omega)]; rw [f1 _ _ (by omega) (by omega)]; exact hn) | (rw [f2 _ _ (by omega) (by omega)]; rw [f1 _ _ (by omega) (by omega)]; exact hn) | (rw [f1 _ _ (by omega) (by omega)]; exact hn) | exact am_dn8 e1 e2 e3 e4 e5 | (rw [f5 _ _ (by omega) (by omega)]; rw [f4 _ _ (by omega) (by omega)]; rw [f3 _ _ (by omega) (by omega)]; rw [f2 _ _ (by omega) (by omega)]; rw [v1]; exact am_dv_1d e1) | (rw [f5 _ _ (by omega) (by omega)]; rw [f4 _ _ (by omega) (by omega)]; rw [f3 _ _ (by omega) (by omega)]; rw [show o.toNat + 1 = (o + 1).toNat by omega]; rw [v2]; exact am_dv_1d e2) | (rw [f5 _ _ (by omega) (by omega)]; rw [f4 _ _ (by omega) (by omega)]; rw [show o.toNat + 2 = (o + 2).toNat by omega]; rw [v3]; exact am_dv_2d e3) | (rw [f5 _ _ (by omega) (by omega)]; rw [show o.toNat + 3 = (o + 3).toNat by omega]; rw [v4]; exact am_dv_2d e4) | (rw [show o.toNat + 4 = (o + 4).toNat by omega]; rw [v5]; exact am_dv_2d e5) | (first | rw [am_dn8_5 e1 e2 e3 e4] | rw [am_dn8_4 e1 e2 e3 e4] | rw [am_dn8_3 e1 e2 e3] | rw [am_dn8_2 e1 e2] | rw [am_dn8_1 e1]) <;> first | assumption | omega | exact fun z => e5 (z.trans (by omega)) | (trace_state; fail))
theorem x_ra_119 {l : Launch} {ν : am_N} {Q : Option am_V → am_N → Prop} (t : Nat → Int) (n q o w : Int) (ht : ν 94 = t) (hn : ν 83 21 = n) (hq : ν 83 22 = q) (n0 : 0 ≤ n) (n1 : n ≤ 96) (hL : ∀ i : Nat, (i : Int) < n → 0 ≤ t i ∧ t i ≤ 255) (ew : o = w) (o0 : 0 ≤ o) (o1 : o < 236) (a0 : 0 ≤ q) (a1 : q ≤ 100) (k1 : ∀ μ' : am_N, (∀ a b, ¬(a = 83 ∧ b = 22) → ¬(a = 97 ∧ o.toNat ≤ b ∧ b < o.toNat + 5) → μ' a b = ν a b) → 1 ≤ am_dn t n 3 q - q → μ' 83 22 = am_dn t n 3 q → μ' 97 o.toNat = am_dv t n 3 q 0 → Q (some (.inl 1)) μ') (k0 : ∀ μ' : am_N, (∀ a b, ¬(a = 83 ∧ b = 22) → ¬(a = 97 ∧ o.toNat ≤ b ∧ b < o.toNat + 5) → μ' a b = ν a b) → am_dn t n 3 q - q < 1 → μ' 83 22 = am_dn t n 3 q → Q (some (.inl 0)) μ') : am_Does l 152 [.inr (.inr 83), .inl 119, .inl w] ν Q := by
  refine am_Does_of (Nat.le_of_ble_eq_true rfl) (Nat.le_of_ble_eq_true rfl) (Nat.le_of_ble_eq_true rfl) ?_
  subst ew
  have kk := fun (x : Int) (μ' : am_N) b1 (b2 : μ' 83 22 = am_dn t n 3 q) b3 (e : x = (if 1 ≤ am_dn t n 3 q - q then 1 else 0)) => (show Q (some (.inl x)) μ' by
    rw [e]
    by_cases g : 1 ≤ am_dn t n 3 q - q
    · rw [if_pos g]; exact k1 μ' b1 g b2 b3
    · rw [if_neg g]; exact k0 μ' b1 (by omega) b2)
  refine am_go (ct := fun _ => false) am_oX7_readsAll 300 ?_
  conv => whnf
  repeat' first
    | (refine (?_ : am_wp _ _ _ _ _ _ _ _ _ _ _ _); conv => whnf)
    | (refine (?_ : am_sw _ _ _ _); conv => whnf)
    | refine And.intro trivial ?_
    | exact trivial
    | ((with_reducible refine (?_ : am_Does _ 150 _ _ _)); refine x_readsNumber t n q o 1 3 ?_ ?_ ?_ n0 n1 hL ?_ ?_ ?_ ?_ ?_ ?_ ?_ ?_ (fun e μ1 e1 e2 e3 f1 g1 v1 => ?_))
    | refine kk _ _ ?_ ?_ ?_ ?_
    | refine And.intro (fun h => absurd h (by decide)) (fun _ => ?_)
    | refine And.intro (fun _ => ?_) (fun h => absurd (by decide) h)
    | refine And.intro (fun _ => ?_) (fun _ => ?_)
    | refine And.intro ?_ ?_
  all_goals (first | decide | exact ht | exact hn | exact hq | omega | (intro b c h1 h2; exact f1 b c h1 (by omega)) | (rw [g1, e1]; rfl) | exact v1 | (rw [e1]; rfl) | (trace_state; fail))
theorem x_ra_114 {l : Launch} {ν : am_N} {Q : Option am_V → am_N → Prop} (t : Nat → Int) (n q o w : Int) (ht : ν 94 = t) (hn : ν 83 21 = n) (hq : ν 83 22 = q) (n0 : 0 ≤ n) (n1 : n ≤ 96) (hL : ∀ i : Nat, (i : Int) < n → 0 ≤ t i ∧ t i ≤ 255) (ew : o = w) (o0 : 0 ≤ o) (o1 : o < 236) (a0 : 0 ≤ q) (a1 : q ≤ 100) (k1 : ∀ μ' : am_N, (∀ a b, ¬(a = 83 ∧ b = 22) → ¬(a = 97 ∧ o.toNat ≤ b ∧ b < o.toNat + 5) → μ' a b = ν a b) → am_dn t n 8 q = q + 8 → μ' 83 22 = q + 8 → μ' 97 o.toNat = am_dt t n q → μ' 97 (o.toNat + 1) = am_dt t n (q + 1) → μ' 97 (o.toNat + 2) = fp_2 t n (q + 2) → μ' 97 (o.toNat + 3) = fp_2 t n (q + 4) → μ' 97 (o.toNat + 4) = fp_2 t n (q + 6) → Q (some (.inl 1)) μ') (k0 : ∀ μ' : am_N, (∀ a b, ¬(a = 83 ∧ b = 22) → ¬(a = 97 ∧ o.toNat ≤ b ∧ b < o.toNat + 5) → μ' a b = ν a b) → am_dn t n 8 q ≠ q + 8 → μ' 83 22 = am_dn t n 8 q → Q (some (.inl 0)) μ') : am_Does l 152 [.inr (.inr 83), .inl 114, .inl w] ν Q := by
  refine am_Does_of (Nat.le_of_ble_eq_true rfl) (Nat.le_of_ble_eq_true rfl) (Nat.le_of_ble_eq_true rfl) ?_
  subst ew
  refine am_go (ct := fun _ => false) am_oX7_readsAll 300 ?_
  conv => whnf
  repeat' first
    | (refine (?_ : am_wp _ _ _ _ _ _ _ _ _ _ _ _); conv => whnf)
    | (refine (?_ : am_sw _ _ _ _); conv => whnf)
    | refine And.intro trivial ?_
    | exact trivial
    | ((with_reducible refine (?_ : am_Does _ 151 _ _ _)); refine x_readsRunner t n q o ?_ ?_ ?_ n0 n1 hL ?_ ?_ ?_ ?_ (fun μ1 f1 e1 g1 v1 v2 v3 v4 v5 => ?_) (fun μ1 f1 e1 g1 => ?_))
    | exact k1 _ f1 e1 g1 v1 v2 v3 v4 v5
    | exact k0 _ f1 e1 g1
    | refine And.intro (fun h => absurd h (by decide)) (fun _ => ?_)
    | refine And.intro (fun _ => ?_) (fun h => absurd (by decide) h)
    | refine And.intro (fun _ => ?_) (fun _ => ?_)
    | refine And.intro ?_ ?_
  all_goals (first | decide | exact ht | exact hn | exact hq | omega | (trace_state; fail))
theorem x_ra_109 {l : Launch} {ν : am_N} {Q : Option am_V → am_N → Prop} (t : Nat → Int) (n q o w : Int) (ht : ν 94 = t) (hn : ν 83 21 = n) (hq : ν 83 22 = q) (n0 : 0 ≤ n) (n1 : n ≤ 96) (hL : ∀ i : Nat, (i : Int) < n → 0 ≤ t i ∧ t i ≤ 255) (ew : o = w) (o0 : 0 ≤ o) (o1 : o < 236) (a0 : 0 ≤ q) (a1 : q ≤ 100) (k1 : ∀ μ' : am_N, (∀ a b, ¬(a = 83 ∧ b = 22) → ¬(a = 97 ∧ o.toNat ≤ b ∧ b < o.toNat + 5) → μ' a b = ν a b) → am_dn t n 2 q = q + 2 → μ' 83 22 = q + 2 → μ' 97 o.toNat = am_dt t n q → μ' 97 (o.toNat + 1) = am_dt t n (q + 1) → Q (some (.inl 1)) μ') (k0 : ∀ μ' : am_N, (∀ a b, ¬(a = 83 ∧ b = 22) → ¬(a = 97 ∧ o.toNat ≤ b ∧ b < o.toNat + 5) → μ' a b = ν a b) → am_dn t n 2 q ≠ q + 2 → μ' 83 22 = am_dn t n 2 q → Q (some (.inl 0)) μ') : am_Does l 152 [.inr (.inr 83), .inl 109, .inl w] ν Q := by
  refine am_Does_of (Nat.le_of_ble_eq_true rfl) (Nat.le_of_ble_eq_true rfl) (Nat.le_of_ble_eq_true rfl) ?_
  subst ew
  have b1 := am_dn_b t n 1 q
  have b2 := am_dn_b t n 1 (q + 1)
  refine am_go (ct := fun _ => false) am_oX7_readsAll 300 ?_
  conv => whnf
  repeat' first
    | (refine (?_ : am_wp _ _ _ _ _ _ _ _ _ _ _ _); conv => whnf)
    | (refine (?_ : am_sw _ _ _ _); conv => whnf)
    | refine And.intro trivial ?_
    | exact trivial
    | ((with_reducible refine (?_ : am_Does _ 150 _ _ _)); first | ((with_reducible refine (?_ : am_Does _ 150 (Sum.inr (Sum.inr 83) :: Sum.inl o :: Sum.inl 1 :: Sum.inl 1 :: _) _ _)); refine x_rn t n q o 1 ?_ ?_ ?_ n0 n1 hL ?_ ?_ ?_ ?_ ?_ ?_ (fun μ1 f1 e1 g1 v1 => ?_) (fun μ1 f1 e1 g1 => ?_)) | ((with_reducible refine (?_ : am_Does _ 150 (Sum.inr (Sum.inr 83) :: Sum.inl (o + 1) :: Sum.inl 1 :: Sum.inl 1 :: _) _ _)); refine x_rn t n (q + 1) (o + 1) 1 ?_ ?_ ?_ n0 n1 hL ?_ ?_ ?_ ?_ ?_ ?_ (fun μ2 f2 e2 g2 v2 => ?_) (fun μ2 f2 e2 g2 => ?_)) | refine x_rn t n q o 1 ?_ ?_ ?_ n0 n1 hL ?_ ?_ ?_ ?_ ?_ ?_ (fun μ1 f1 e1 g1 v1 => ?_) (fun μ1 f1 e1 g1 => ?_) | refine x_rn t n (q + 1) (o + 1) 1 ?_ ?_ ?_ n0 n1 hL ?_ ?_ ?_ ?_ ?_ ?_ (fun μ2 f2 e2 g2 v2 => ?_) (fun μ2 f2 e2 g2 => ?_))
    | refine k1 _ ?_ ?_ ?_ ?_ ?_
    | refine k0 _ ?_ ?_ ?_
    | refine And.intro (fun h => absurd h (by decide)) (fun _ => ?_)
    | refine And.intro (fun _ => ?_) (fun h => absurd (by decide) h)
    | refine And.intro (fun _ => ?_) (fun _ => ?_)
    | refine And.intro ?_ ?_
  all_goals (first | decide | exact ht | exact hn | exact hq | omega | (rw [g1]; omega) | (intro b c h1 h2; rw [f2 _ _ (by omega) (by omega)]; rw [f1 _ _ (by omega) (by omega)]) | (intro b c h1 h2; rw [f1 _ _ (by omega) (by omega)]) | (refine Eq.trans (funext fun b => ?_) ht; rw [f1 _ _ (by omega) (by omega)]) | (rw [f1 _ _ (by omega) (by omega)]; exact hn) | (rw [g2]; omega) | exact (am_dn2_2 e1).trans (e2.trans (by omega)) | exact (fun z => e2 ((am_dn2_2 e1).symm.trans (z.trans (by omega)))) | (rw [f2 _ _ (by omega) (by omega), v1]; exact am_dv_1d e1) | (rw [show o.toNat + 1 = (o + 1).toNat by omega, v2]; exact am_dv_1d e2) | (rw [am_dn2_2 e1]; first | omega | exact g2) | (rw [am_dn2_1 e1]; first | exact e1 | omega | exact g1) | (trace_state; fail))
theorem x_ra_115 {l : Launch} {ν : am_N} {Q : Option am_V → am_N → Prop} (t : Nat → Int) (n q o w : Int) (ht : ν 94 = t) (hn : ν 83 21 = n) (hq : ν 83 22 = q) (n0 : 0 ≤ n) (n1 : n ≤ 96) (hL : ∀ i : Nat, (i : Int) < n → 0 ≤ t i ∧ t i ≤ 255) (ew : o = w) (o0 : 0 ≤ o) (o1 : o < 236) (a0 : 0 ≤ q) (a1 : q ≤ 100) (k1 : ∀ μ' : am_N, (∀ a b, ¬(a = 83 ∧ b = 22) → ¬(a = 97 ∧ o.toNat ≤ b ∧ b < o.toNat + 5) → μ' a b = ν a b) → am_dn t n 3 q = q + 3 → μ' 83 22 = q + 3 → μ' 97 o.toNat = am_dt t n q → μ' 97 (o.toNat + 1) = fp_2 t n (q + 1) → Q (some (.inl 1)) μ') (k0 : ∀ μ' : am_N, (∀ a b, ¬(a = 83 ∧ b = 22) → ¬(a = 97 ∧ o.toNat ≤ b ∧ b < o.toNat + 5) → μ' a b = ν a b) → am_dn t n 3 q ≠ q + 3 → μ' 83 22 = am_dn t n 3 q → Q (some (.inl 0)) μ') : am_Does l 152 [.inr (.inr 83), .inl 115, .inl w] ν Q := by
  refine am_Does_of (Nat.le_of_ble_eq_true rfl) (Nat.le_of_ble_eq_true rfl) (Nat.le_of_ble_eq_true rfl) ?_
  subst ew
  have b1 := am_dn_b t n 1 q
  have b2 := am_dn_b t n 2 (q + 1)
  refine am_go (ct := fun _ => false) am_oX7_readsAll 300 ?_
  conv => whnf
  repeat' first
    | (refine (?_ : am_wp _ _ _ _ _ _ _ _ _ _ _ _); conv => whnf)
    | (refine (?_ : am_sw _ _ _ _); conv => whnf)
    | refine And.intro trivial ?_
    | exact trivial
    | ((with_reducible refine (?_ : am_Does _ 150 _ _ _)); first | ((with_reducible refine (?_ : am_Does _ 150 (Sum.inr (Sum.inr 83) :: Sum.inl o :: Sum.inl 1 :: Sum.inl 1 :: _) _ _)); refine x_rn t n q o 1 ?_ ?_ ?_ n0 n1 hL ?_ ?_ ?_ ?_ ?_ ?_ (fun μ1 f1 e1 g1 v1 => ?_) (fun μ1 f1 e1 g1 => ?_)) | ((with_reducible refine (?_ : am_Does _ 150 (Sum.inr (Sum.inr 83) :: Sum.inl (o + 1) :: Sum.inl 2 :: Sum.inl 2 :: _) _ _)); refine x_rn t n (q + 1) (o + 1) 2 ?_ ?_ ?_ n0 n1 hL ?_ ?_ ?_ ?_ ?_ ?_ (fun μ2 f2 e2 g2 v2 => ?_) (fun μ2 f2 e2 g2 => ?_)) | refine x_rn t n q o 1 ?_ ?_ ?_ n0 n1 hL ?_ ?_ ?_ ?_ ?_ ?_ (fun μ1 f1 e1 g1 v1 => ?_) (fun μ1 f1 e1 g1 => ?_) | refine x_rn t n (q + 1) (o + 1) 2 ?_ ?_ ?_ n0 n1 hL ?_ ?_ ?_ ?_ ?_ ?_ (fun μ2 f2 e2 g2 v2 => ?_) (fun μ2 f2 e2 g2 => ?_))
    | refine k1 _ ?_ ?_ ?_ ?_ ?_
    | refine k0 _ ?_ ?_ ?_
    | refine And.intro (fun h => absurd h (by decide)) (fun _ => ?_)
    | refine And.intro (fun _ => ?_) (fun h => absurd (by decide) h)
    | refine And.intro (fun _ => ?_) (fun _ => ?_)
    | refine And.intro ?_ ?_
  all_goals (first | decide | exact ht | exact hn | exact hq | omega | (rw [g1]; omega) | (intro b c h1 h2; rw [f2 _ _ (by omega) (by omega)]; rw [f1 _ _ (by omega) (by omega)]) | (intro b c h1 h2; rw [f1 _ _ (by omega) (by omega)]) | (refine Eq.trans (funext fun b => ?_) ht; rw [f1 _ _ (by omega) (by omega)]) | (rw [f1 _ _ (by omega) (by omega)]; exact hn) | (rw [g2]; omega) | exact (am_dn3_2 e1).trans (e2.trans (by omega)) | exact (fun z => e2 ((am_dn3_2 e1).symm.trans (z.trans (by omega)))) | (rw [f2 _ _ (by omega) (by omega), v1]; exact am_dv_1d e1) | (rw [show o.toNat + 1 = (o + 1).toNat by omega, v2]; exact am_dv_2d e2) | (rw [am_dn3_2 e1]; first | omega | exact g2) | (rw [am_dn3_1 e1]; first | exact e1 | omega | exact g1) | (trace_state; fail))
theorem x_ra_103 {l : Launch} {ν : am_N} {Q : Option am_V → am_N → Prop} (o : Int) (k1 : Q (some (.inl 1)) ν) : am_Does l 152 [.inr (.inr 83), .inl 103, .inl o] ν Q := by
  refine am_Does_of (Nat.le_of_ble_eq_true rfl) (Nat.le_of_ble_eq_true rfl) (Nat.le_of_ble_eq_true rfl) ?_
  refine am_go (ct := fun _ => false) am_oX7_readsAll 300 ?_
  conv => whnf
  repeat' first
    | (refine (?_ : am_wp _ _ _ _ _ _ _ _ _ _ _ _); conv => whnf)
    | (refine (?_ : am_sw _ _ _ _); conv => whnf)
    | refine And.intro trivial ?_
    | exact trivial
    | exact k1
    | refine And.intro (fun h => absurd h (by decide)) (fun _ => ?_)
    | refine And.intro (fun _ => ?_) (fun h => absurd (by decide) h)
    | refine And.intro (fun _ => ?_) (fun _ => ?_)
    | refine And.intro ?_ ?_
  all_goals (first | decide | omega | (trace_state; fail))
theorem am_bh_119 {t : Nat → Int} {n q : Int} (hc : am_nx t n q = 119) : ((am_dn t n 3 (q + 1) - q - 1 < 1 ∨ am_nx t n (am_dn t n 3 (q + 1)) ≠ 59) → am_bh t n q = -1 - am_dn t n 3 (q + 1)) ∧ (¬(am_dn t n 3 (q + 1) - q - 1 < 1 ∨ am_nx t n (am_dn t n 3 (q + 1)) ≠ 59) → am_bh t n q = am_dn t n 3 (q + 1) + 1) := by
  have e : am_bh t n q = if am_dn t n 3 (q + 1) - q - 1 < 1 ∨ am_nx t n (am_dn t n 3 (q + 1)) ≠ 59 then -1 - am_dn t n 3 (q + 1) else am_dn t n 3 (q + 1) + 1 := by
    unfold am_bh
    rw [hc]
    rfl
  exact ⟨fun h => by rw [e, if_pos h], fun h => by rw [e, if_neg h]⟩
theorem x_st_119 {l : Launch} {ν : am_N} {Q : Option am_V → am_N → Prop} (t : Nat → Int) (n q s : Int) (ht : ν 94 = t) (hn : ν 83 21 = n) (hq : ν 83 22 = q) (n0 : 0 ≤ n) (n1 : n ≤ 96) (hL : ∀ i : Nat, (i : Int) < n → 0 ≤ t i ∧ t i ≤ 255) (es : ν 83 23 = s) (s0 : 0 ≤ s) (s1 : s < 48) (a0 : 0 ≤ q) (a1 : q ≤ n) (hc : am_nx t n q = 119) (k1 : 0 ≤ am_bh t n q → ∀ μ' : am_N, (∀ a b, ¬(a = 83 ∧ b = 22) → ¬(a = 95 ∧ b = s.toNat) → ¬(a = 96 ∧ b = s.toNat) → ¬(a = 97 ∧ 5 * s.toNat ≤ b ∧ b < 5 * s.toNat + 5) → μ' a b = ν a b) → μ' 83 22 = am_bh t n q → μ' 95 s.toNat = am_nx t n q → μ' 96 s.toNat = q → fp_td t n q (μ' 97) (5 * s.toNat) → Q (some (.inl 1)) μ') (k0 : am_bh t n q < 0 → ∀ μ' : am_N, (∀ a b, ¬(a = 83 ∧ b = 22) → ¬(a = 95 ∧ b = s.toNat) → ¬(a = 96 ∧ b = s.toNat) → ¬(a = 97 ∧ 5 * s.toNat ≤ b ∧ b < 5 * s.toNat + 5) → μ' a b = ν a b) → μ' 83 22 = -1 - am_bh t n q → Q (some (.inl 0)) μ') : am_Does l 153 [.inr (.inr 83)] ν Q := by
  refine am_Does_of (Nat.le_of_ble_eq_true rfl) (Nat.le_of_ble_eq_true rfl) (Nat.le_of_ble_eq_true rfl) ?_
  have l0 : am_c 0 = 0 := rfl
  have l1 : am_c 1 = 1 := rfl
  have l2 : am_c 2 = 2 := rfl
  have l3 : am_c 3 = 3 := rfl
  have l4 : am_c 4 = 4 := rfl
  have l5 : am_c 5 = 5 := rfl
  have l8 : am_c 8 = 8 := rfl
  have l10 : am_c 10 = 10 := rfl
  have l20 : am_c 20 = 20 := rfl
  have l40 : am_c 40 = 40 := rfl
  have l48 : am_c 48 = 48 := rfl
  have l57 : am_c 57 = 57 := rfl
  have l59 : am_c 59 = 59 := rfl
  have l103 : am_c 103 = 103 := rfl
  have l109 : am_c 109 = 109 := rfl
  have l114 : am_c 114 = 114 := rfl
  have l115 : am_c 115 = 115 := rfl
  have l119 : am_c 119 = 119 := rfl
  have l200 : am_c 200 = 200 := rfl
  have l999 : am_c 999 = 999 := rfl
  have qn : q < n := by
    by_cases z : q < n
    · exact z
    · rw [show am_nx t n q = -1 from if_neg (by omega)] at hc; omega
  have db := am_dn_b t n 3 (q + 1)
  have dn := am_dn_n t n 3 (q + 1) (by omega)
  have cs : am_c (ν 83 23) = s := by rw [es]; exact am_cR (by omega) (by omega)
  have lp70 : ∀ (v : Int) (μ : am_N), v = 119 → (∀ a b, ¬(a = 83 ∧ b = 22) → ¬(a = 95 ∧ b = s.toNat) → ¬(a = 96 ∧ b = s.toNat) → μ a b = ν a b) → μ 83 22 = q + 1 → μ 95 s.toNat = 119 → μ 96 s.toNat = q → am_AW l 0 (fun _ => 0) 153 Q 70 [some (.inr (.inr 83)), some (.inl v)] [] μ := by
    intro v μ hv0 hv1 hv2 hv3 hv4
    subst hv0
    have e23 : μ 83 23 = s := (hv1 83 23 (by omega) (by omega) (by omega)).trans es
    have e94 : μ 94 = t := (funext (fun b => hv1 94 b (by omega) (by omega) (by omega))).trans ht
    have e21 : μ 83 21 = n := (hv1 83 21 (by omega) (by omega) (by omega)).trans hn
    refine am_go (ct := fun pc => Nat.beq pc 70) am_oX7_statement 300 ?_
    conv => whnf
    repeat' first
      | (refine (?_ : am_wp _ _ _ _ _ _ _ _ _ _ _ _); conv => whnf)
      | (refine (?_ : am_sw _ _ _ _); conv => whnf)
      | refine And.intro trivial ?_
      | exact trivial
      | (exact ⟨fun _ => (by rw [am_upN (by decide), show 5 * s.toNat = (5 * s).toNat by omega]; exact v1), fun z => (by omega), fun z => (by omega), fun z => (by omega)⟩)
      | ((with_reducible refine (?_ : am_Does _ 152 _ _ _)); refine x_ra_119 t n (q + 1) (5 * s) _ ?_ ?_ ?_ n0 n1 hL (by rw [e23]) ?_ ?_ ?_ ?_ (fun μ1 f1 e1 g1 v1 => ?_) (fun μ1 f1 e1 g1 => ?_))
      | ((with_reducible refine (?_ : am_Does _ 149 _ _ _)); first | refine x_next t n (am_dn t n 3 (q + 1)) ?_ ?_ ?_ n0 n1 hL ?_ ?_ (fun w ew w0 w1 cw => ?_) | refine x_next t n q ?_ ?_ ?_ n0 n1 hL ?_ ?_ (fun v ev v0 v1 cv => ?_))
      | refine k1 ?_ _ ?_ ?_ ?_ ?_ ?_
      | refine k0 ?_ _ ?_ ?_
      | ((with_reducible refine (?_ : am_AW _ _ _ _ _ 70 _ _ _)); (refine lp70 _ _ ?_ ?_ ?_ ?_ ?_))
      | refine And.intro (fun h => absurd h (by decide)) (fun _ => ?_)
      | refine And.intro (fun _ => ?_) (fun h => absurd (by decide) h)
      | refine And.intro (fun _ => ?_) (fun _ => ?_)
      | refine And.intro ?_ ?_
    all_goals (first | decide | exact e94 | exact e21 | exact hv2 | omega | (refine Eq.trans (funext fun b => f1 94 b (by omega) (by omega)) e94) | (rw [f1 _ _ (by omega) (by omega)]; exact e21) | exact g1 | (have z := am_bh_119 hc; rw [z.2 (by omega)]; omega) | (have z := am_bh_119 hc; rw [z.1 (by omega)]; omega) | (have z := am_bh_119 hc; rw [z.1 (by omega)]; omega) | (intro a b h1 h2 h3 h4; rw [am_uE h1, f1 a b h1 (by omega)]; exact hv1 a b h1 h2 h3) | (intro a b h1 h2 h3 h4; rw [f1 a b h1 (by omega)]; exact hv1 a b h1 h2 h3) | (have z := am_bh_119 hc; rw [am_upS, if_pos ⟨rfl, rfl⟩, g1, z.2 (by omega)]) | (rw [am_upN (by decide), f1 _ _ (by omega) (by omega)]; exact hv3.trans hc.symm) | (rw [am_upN (by decide), f1 _ _ (by omega) (by omega)]; exact hv4) | (exact ⟨fun _ => (by rw [am_upN (by decide), show 5 * s.toNat = (5 * s).toNat by omega]; exact v1), fun z => (by omega), fun z => (by omega), fun z => (by omega)⟩) | (have z := am_bh_119 hc; rw [g1, z.1 (by omega)]; omega) | (have z := am_bh_119 hc; rw [g1, z.1 (by omega)]; omega) | (trace_state; fail))
  refine am_go (ct := fun pc => Nat.beq pc 70) am_oX7_statement 300 ?_
  conv => whnf
  repeat' first
    | (refine (?_ : am_wp _ _ _ _ _ _ _ _ _ _ _ _); conv => whnf)
    | (refine (?_ : am_sw _ _ _ _); conv => whnf)
    | refine And.intro trivial ?_
    | exact trivial
    | ((with_reducible refine (?_ : am_Does _ 149 _ _ _)); refine x_next t n q ?_ ?_ ?_ n0 n1 hL ?_ ?_ (fun v ev v0 v1 cv => ?_))
    | ((with_reducible refine (?_ : am_AW _ _ _ _ _ 70 _ _ _)); (refine lp70 _ _ ?_ ?_ ?_ ?_ ?_))
    | ((with_reducible refine (?_ : am_AW _ _ _ _ _ 70 _ _ _)); refine lp70 _ _ ?_ ?_ ?_ ?_ ?_)
    | refine And.intro (fun h => absurd h (by decide)) (fun _ => ?_)
    | refine And.intro (fun _ => ?_) (fun h => absurd (by decide) h)
    | refine And.intro (fun _ => ?_) (fun _ => ?_)
    | refine And.intro ?_ ?_
  all_goals (first | decide | exact ht | exact hn | exact hq | omega | (rw [am_upN (by decide), cs]; omega) | (intro a b h1 h2 h3; rw [am_uE h1, am_uE (by rw [am_upN (by decide), cs]; exact h3), am_uE (by rw [cs]; exact h2)]) | (rw [am_upS, if_pos ⟨rfl, rfl⟩, am_upN (by decide), am_upN (by decide), hq]) | (rw [am_upN (by decide), am_upN (by decide), am_upS, if_pos ⟨rfl, by rw [cs]⟩]; omega) | (rw [am_upN (by decide), am_upS, if_pos ⟨rfl, by rw [am_upN (by decide), cs]⟩, am_upN (by decide)]; exact hq) | (trace_state; fail))
theorem am_bh_114 {t : Nat → Int} {n q : Int} (hc : am_nx t n q = 114) : ((am_dn t n 8 (q + 1) - q - 1 < 8 ∨ am_nx t n (am_dn t n 8 (q + 1)) ≠ 59) → am_bh t n q = -1 - am_dn t n 8 (q + 1)) ∧ (¬(am_dn t n 8 (q + 1) - q - 1 < 8 ∨ am_nx t n (am_dn t n 8 (q + 1)) ≠ 59) → am_bh t n q = am_dn t n 8 (q + 1) + 1) := by
  have e : am_bh t n q = if am_dn t n 8 (q + 1) - q - 1 < 8 ∨ am_nx t n (am_dn t n 8 (q + 1)) ≠ 59 then -1 - am_dn t n 8 (q + 1) else am_dn t n 8 (q + 1) + 1 := by
    unfold am_bh
    rw [hc]
    rfl
  exact ⟨fun h => by rw [e, if_pos h], fun h => by rw [e, if_neg h]⟩
theorem x_st_114 {l : Launch} {ν : am_N} {Q : Option am_V → am_N → Prop} (t : Nat → Int) (n q s : Int) (ht : ν 94 = t) (hn : ν 83 21 = n) (hq : ν 83 22 = q) (n0 : 0 ≤ n) (n1 : n ≤ 96) (hL : ∀ i : Nat, (i : Int) < n → 0 ≤ t i ∧ t i ≤ 255) (es : ν 83 23 = s) (s0 : 0 ≤ s) (s1 : s < 48) (a0 : 0 ≤ q) (a1 : q ≤ n) (hc : am_nx t n q = 114) (k1 : 0 ≤ am_bh t n q → ∀ μ' : am_N, (∀ a b, ¬(a = 83 ∧ b = 22) → ¬(a = 95 ∧ b = s.toNat) → ¬(a = 96 ∧ b = s.toNat) → ¬(a = 97 ∧ 5 * s.toNat ≤ b ∧ b < 5 * s.toNat + 5) → μ' a b = ν a b) → μ' 83 22 = am_bh t n q → μ' 95 s.toNat = am_nx t n q → μ' 96 s.toNat = q → fp_td t n q (μ' 97) (5 * s.toNat) → Q (some (.inl 1)) μ') (k0 : am_bh t n q < 0 → ∀ μ' : am_N, (∀ a b, ¬(a = 83 ∧ b = 22) → ¬(a = 95 ∧ b = s.toNat) → ¬(a = 96 ∧ b = s.toNat) → ¬(a = 97 ∧ 5 * s.toNat ≤ b ∧ b < 5 * s.toNat + 5) → μ' a b = ν a b) → μ' 83 22 = -1 - am_bh t n q → Q (some (.inl 0)) μ') : am_Does l 153 [.inr (.inr 83)] ν Q := by
  refine am_Does_of (Nat.le_of_ble_eq_true rfl) (Nat.le_of_ble_eq_true rfl) (Nat.le_of_ble_eq_true rfl) ?_
  have l0 : am_c 0 = 0 := rfl
  have l1 : am_c 1 = 1 := rfl
  have l2 : am_c 2 = 2 := rfl
  have l3 : am_c 3 = 3 := rfl
  have l4 : am_c 4 = 4 := rfl
  have l5 : am_c 5 = 5 := rfl
  have l8 : am_c 8 = 8 := rfl
  have l10 : am_c 10 = 10 := rfl
  have l20 : am_c 20 = 20 := rfl
  have l40 : am_c 40 = 40 := rfl
  have l48 : am_c 48 = 48 := rfl
  have l57 : am_c 57 = 57 := rfl
  have l59 : am_c 59 = 59 := rfl
  have l103 : am_c 103 = 103 := rfl
  have l109 : am_c 109 = 109 := rfl
  have l114 : am_c 114 = 114 := rfl
  have l115 : am_c 115 = 115 := rfl
  have l119 : am_c 119 = 119 := rfl
  have l200 : am_c 200 = 200 := rfl
  have l999 : am_c 999 = 999 := rfl
  have qn : q < n := by
    by_cases z : q < n
    · exact z
    · rw [show am_nx t n q = -1 from if_neg (by omega)] at hc; omega
  have db := am_dn_b t n 8 (q + 1)
  have dn := am_dn_n t n 8 (q + 1) (by omega)
  have cs : am_c (ν 83 23) = s := by rw [es]; exact am_cR (by omega) (by omega)
  have lp70 : ∀ (v : Int) (μ : am_N), v = 114 → (∀ a b, ¬(a = 83 ∧ b = 22) → ¬(a = 95 ∧ b = s.toNat) → ¬(a = 96 ∧ b = s.toNat) → μ a b = ν a b) → μ 83 22 = q + 1 → μ 95 s.toNat = 114 → μ 96 s.toNat = q → am_AW l 0 (fun _ => 0) 153 Q 70 [some (.inr (.inr 83)), some (.inl v)] [] μ := by
    intro v μ hv0 hv1 hv2 hv3 hv4
    subst hv0
    have e23 : μ 83 23 = s := (hv1 83 23 (by omega) (by omega) (by omega)).trans es
    have e94 : μ 94 = t := (funext (fun b => hv1 94 b (by omega) (by omega) (by omega))).trans ht
    have e21 : μ 83 21 = n := (hv1 83 21 (by omega) (by omega) (by omega)).trans hn
    refine am_go (ct := fun pc => Nat.beq pc 70) am_oX7_statement 300 ?_
    conv => whnf
    repeat' first
      | (refine (?_ : am_wp _ _ _ _ _ _ _ _ _ _ _ _); conv => whnf)
      | (refine (?_ : am_sw _ _ _ _); conv => whnf)
      | refine And.intro trivial ?_
      | exact trivial
      | (exact ⟨fun z => (by omega), fun _ => (by rw [am_upN (by decide), am_upN (by decide), am_upN (by decide), am_upN (by decide), am_upN (by decide), show 5 * s.toNat = (5 * s).toNat by omega, v1, v2, v3, v4, v5, show q + 1 + 1 = q + 2 by omega, show q + 1 + 2 = q + 3 by omega, show q + 1 + 4 = q + 5 by omega, show q + 1 + 6 = q + 7 by omega]; exact ⟨rfl, rfl, rfl, rfl, rfl⟩), fun z => (by omega), fun z => (by omega)⟩)
      | ((with_reducible refine (?_ : am_Does _ 152 _ _ _)); refine x_ra_114 t n (q + 1) (5 * s) _ ?_ ?_ ?_ n0 n1 hL (by rw [e23]) ?_ ?_ ?_ ?_ (fun μ1 f1 e1 g1 v1 v2 v3 v4 v5 => ?_) (fun μ1 f1 e1 g1 => ?_))
      | ((with_reducible refine (?_ : am_Does _ 149 _ _ _)); first | refine x_next t n (q + 1 + 8) ?_ ?_ ?_ n0 n1 hL ?_ ?_ (fun w ew w0 w1 cw => ?_) | refine x_next t n q ?_ ?_ ?_ n0 n1 hL ?_ ?_ (fun v ev v0 v1 cv => ?_))
      | refine k1 ?_ _ ?_ ?_ ?_ ?_ ?_
      | refine k0 ?_ _ ?_ ?_
      | ((with_reducible refine (?_ : am_AW _ _ _ _ _ 70 _ _ _)); (refine lp70 _ _ ?_ ?_ ?_ ?_ ?_))
      | refine And.intro (fun h => absurd h (by decide)) (fun _ => ?_)
      | refine And.intro (fun _ => ?_) (fun h => absurd (by decide) h)
      | refine And.intro (fun _ => ?_) (fun _ => ?_)
      | refine And.intro ?_ ?_
    all_goals (first | decide | exact e94 | exact e21 | exact hv2 | omega | (refine Eq.trans (funext fun b => f1 94 b (by omega) (by omega)) e94) | (rw [f1 _ _ (by omega) (by omega)]; exact e21) | exact g1 | (have z := am_bh_114 hc; rw [e1] at z; rw [z.2 (by omega)]; omega) | (have z := am_bh_114 hc; rw [z.1 (by omega)]; omega) | (have z := am_bh_114 hc; rw [e1] at z; rw [z.1 (by omega)]; omega) | (intro a b h1 h2 h3 h4; rw [am_uE h1, f1 a b h1 (by omega)]; exact hv1 a b h1 h2 h3) | (intro a b h1 h2 h3 h4; rw [f1 a b h1 (by omega)]; exact hv1 a b h1 h2 h3) | (have z := am_bh_114 hc; rw [e1] at z; rw [am_upS, if_pos ⟨rfl, rfl⟩, g1, z.2 (by omega)]) | (rw [am_upN (by decide), f1 _ _ (by omega) (by omega)]; exact hv3.trans hc.symm) | (rw [am_upN (by decide), f1 _ _ (by omega) (by omega)]; exact hv4) | (exact ⟨fun z => (by omega), fun _ => (by rw [am_upN (by decide), am_upN (by decide), am_upN (by decide), am_upN (by decide), am_upN (by decide), show 5 * s.toNat = (5 * s).toNat by omega, v1, v2, v3, v4, v5, show q + 1 + 1 = q + 2 by omega, show q + 1 + 2 = q + 3 by omega, show q + 1 + 4 = q + 5 by omega, show q + 1 + 6 = q + 7 by omega]; exact ⟨rfl, rfl, rfl, rfl, rfl⟩), fun z => (by omega), fun z => (by omega)⟩) | (have z := am_bh_114 hc; rw [g1, z.1 (by omega)]; omega) | (have z := am_bh_114 hc; rw [e1] at z; rw [g1, z.1 (by omega)]; omega) | (trace_state; fail))
  refine am_go (ct := fun pc => Nat.beq pc 70) am_oX7_statement 300 ?_
  conv => whnf
  repeat' first
    | (refine (?_ : am_wp _ _ _ _ _ _ _ _ _ _ _ _); conv => whnf)
    | (refine (?_ : am_sw _ _ _ _); conv => whnf)
    | refine And.intro trivial ?_
    | exact trivial
    | ((with_reducible refine (?_ : am_Does _ 149 _ _ _)); refine x_next t n q ?_ ?_ ?_ n0 n1 hL ?_ ?_ (fun v ev v0 v1 cv => ?_))
    | ((with_reducible refine (?_ : am_AW _ _ _ _ _ 70 _ _ _)); (refine lp70 _ _ ?_ ?_ ?_ ?_ ?_))
    | ((with_reducible refine (?_ : am_AW _ _ _ _ _ 70 _ _ _)); refine lp70 _ _ ?_ ?_ ?_ ?_ ?_)
    | refine And.intro (fun h => absurd h (by decide)) (fun _ => ?_)
    | refine And.intro (fun _ => ?_) (fun h => absurd (by decide) h)
    | refine And.intro (fun _ => ?_) (fun _ => ?_)
    | refine And.intro ?_ ?_
  all_goals (first | decide | exact ht | exact hn | exact hq | omega | (rw [am_upN (by decide), cs]; omega) | (intro a b h1 h2 h3; rw [am_uE h1, am_uE (by rw [am_upN (by decide), cs]; exact h3), am_uE (by rw [cs]; exact h2)]) | (rw [am_upS, if_pos ⟨rfl, rfl⟩, am_upN (by decide), am_upN (by decide), hq]) | (rw [am_upN (by decide), am_upN (by decide), am_upS, if_pos ⟨rfl, by rw [cs]⟩]; omega) | (rw [am_upN (by decide), am_upS, if_pos ⟨rfl, by rw [am_upN (by decide), cs]⟩, am_upN (by decide)]; exact hq) | (trace_state; fail))
theorem am_bh_109 {t : Nat → Int} {n q : Int} (hc : am_nx t n q = 109) : ((am_dn t n 2 (q + 1) - q - 1 < 2 ∨ am_nx t n (am_dn t n 2 (q + 1)) ≠ 59) → am_bh t n q = -1 - am_dn t n 2 (q + 1)) ∧ (¬(am_dn t n 2 (q + 1) - q - 1 < 2 ∨ am_nx t n (am_dn t n 2 (q + 1)) ≠ 59) → am_bh t n q = am_dn t n 2 (q + 1) + 1) := by
  have e : am_bh t n q = if am_dn t n 2 (q + 1) - q - 1 < 2 ∨ am_nx t n (am_dn t n 2 (q + 1)) ≠ 59 then -1 - am_dn t n 2 (q + 1) else am_dn t n 2 (q + 1) + 1 := by
    unfold am_bh
    rw [hc]
    rfl
  exact ⟨fun h => by rw [e, if_pos h], fun h => by rw [e, if_neg h]⟩
theorem x_st_109 {l : Launch} {ν : am_N} {Q : Option am_V → am_N → Prop} (t : Nat → Int) (n q s : Int) (ht : ν 94 = t) (hn : ν 83 21 = n) (hq : ν 83 22 = q) (n0 : 0 ≤ n) (n1 : n ≤ 96) (hL : ∀ i : Nat, (i : Int) < n → 0 ≤ t i ∧ t i ≤ 255) (es : ν 83 23 = s) (s0 : 0 ≤ s) (s1 : s < 48) (a0 : 0 ≤ q) (a1 : q ≤ n) (hc : am_nx t n q = 109) (k1 : 0 ≤ am_bh t n q → ∀ μ' : am_N, (∀ a b, ¬(a = 83 ∧ b = 22) → ¬(a = 95 ∧ b = s.toNat) → ¬(a = 96 ∧ b = s.toNat) → ¬(a = 97 ∧ 5 * s.toNat ≤ b ∧ b < 5 * s.toNat + 5) → μ' a b = ν a b) → μ' 83 22 = am_bh t n q → μ' 95 s.toNat = am_nx t n q → μ' 96 s.toNat = q → fp_td t n q (μ' 97) (5 * s.toNat) → Q (some (.inl 1)) μ') (k0 : am_bh t n q < 0 → ∀ μ' : am_N, (∀ a b, ¬(a = 83 ∧ b = 22) → ¬(a = 95 ∧ b = s.toNat) → ¬(a = 96 ∧ b = s.toNat) → ¬(a = 97 ∧ 5 * s.toNat ≤ b ∧ b < 5 * s.toNat + 5) → μ' a b = ν a b) → μ' 83 22 = -1 - am_bh t n q → Q (some (.inl 0)) μ') : am_Does l 153 [.inr (.inr 83)] ν Q := by
  refine am_Does_of (Nat.le_of_ble_eq_true rfl) (Nat.le_of_ble_eq_true rfl) (Nat.le_of_ble_eq_true rfl) ?_
  have l0 : am_c 0 = 0 := rfl
  have l1 : am_c 1 = 1 := rfl
  have l2 : am_c 2 = 2 := rfl
  have l3 : am_c 3 = 3 := rfl
  have l4 : am_c 4 = 4 := rfl
  have l5 : am_c 5 = 5 := rfl
  have l8 : am_c 8 = 8 := rfl
  have l10 : am_c 10 = 10 := rfl
  have l20 : am_c 20 = 20 := rfl
  have l40 : am_c 40 = 40 := rfl
  have l48 : am_c 48 = 48 := rfl
  have l57 : am_c 57 = 57 := rfl
  have l59 : am_c 59 = 59 := rfl
  have l103 : am_c 103 = 103 := rfl
  have l109 : am_c 109 = 109 := rfl
  have l114 : am_c 114 = 114 := rfl
  have l115 : am_c 115 = 115 := rfl
  have l119 : am_c 119 = 119 := rfl
  have l200 : am_c 200 = 200 := rfl
  have l999 : am_c 999 = 999 := rfl
  have qn : q < n := by
    by_cases z : q < n
    · exact z
    · rw [show am_nx t n q = -1 from if_neg (by omega)] at hc; omega
  have db := am_dn_b t n 2 (q + 1)
  have dn := am_dn_n t n 2 (q + 1) (by omega)
  have cs : am_c (ν 83 23) = s := by rw [es]; exact am_cR (by omega) (by omega)
  have lp70 : ∀ (v : Int) (μ : am_N), v = 109 → (∀ a b, ¬(a = 83 ∧ b = 22) → ¬(a = 95 ∧ b = s.toNat) → ¬(a = 96 ∧ b = s.toNat) → μ a b = ν a b) → μ 83 22 = q + 1 → μ 95 s.toNat = 109 → μ 96 s.toNat = q → am_AW l 0 (fun _ => 0) 153 Q 70 [some (.inr (.inr 83)), some (.inl v)] [] μ := by
    intro v μ hv0 hv1 hv2 hv3 hv4
    subst hv0
    have e23 : μ 83 23 = s := (hv1 83 23 (by omega) (by omega) (by omega)).trans es
    have e94 : μ 94 = t := (funext (fun b => hv1 94 b (by omega) (by omega) (by omega))).trans ht
    have e21 : μ 83 21 = n := (hv1 83 21 (by omega) (by omega) (by omega)).trans hn
    refine am_go (ct := fun pc => Nat.beq pc 70) am_oX7_statement 300 ?_
    conv => whnf
    repeat' first
      | (refine (?_ : am_wp _ _ _ _ _ _ _ _ _ _ _ _); conv => whnf)
      | (refine (?_ : am_sw _ _ _ _); conv => whnf)
      | refine And.intro trivial ?_
      | exact trivial
      | (exact ⟨fun z => (by omega), fun z => (by omega), fun _ => (by rw [am_upN (by decide), am_upN (by decide), show 5 * s.toNat = (5 * s).toNat by omega, v1, v2, show q + 1 + 1 = q + 2 by omega]; exact ⟨rfl, rfl⟩), fun z => (by omega)⟩)
      | ((with_reducible refine (?_ : am_Does _ 152 _ _ _)); refine x_ra_109 t n (q + 1) (5 * s) _ ?_ ?_ ?_ n0 n1 hL (by rw [e23]) ?_ ?_ ?_ ?_ (fun μ1 f1 e1 g1 v1 v2 => ?_) (fun μ1 f1 e1 g1 => ?_))
      | ((with_reducible refine (?_ : am_Does _ 149 _ _ _)); first | refine x_next t n (q + 1 + 2) ?_ ?_ ?_ n0 n1 hL ?_ ?_ (fun w ew w0 w1 cw => ?_) | refine x_next t n q ?_ ?_ ?_ n0 n1 hL ?_ ?_ (fun v ev v0 v1 cv => ?_))
      | refine k1 ?_ _ ?_ ?_ ?_ ?_ ?_
      | refine k0 ?_ _ ?_ ?_
      | ((with_reducible refine (?_ : am_AW _ _ _ _ _ 70 _ _ _)); (refine lp70 _ _ ?_ ?_ ?_ ?_ ?_))
      | refine And.intro (fun h => absurd h (by decide)) (fun _ => ?_)
      | refine And.intro (fun _ => ?_) (fun h => absurd (by decide) h)
      | refine And.intro (fun _ => ?_) (fun _ => ?_)
      | refine And.intro ?_ ?_
    all_goals (first | decide | exact e94 | exact e21 | exact hv2 | omega | (refine Eq.trans (funext fun b => f1 94 b (by omega) (by omega)) e94) | (rw [f1 _ _ (by omega) (by omega)]; exact e21) | exact g1 | (have z := am_bh_109 hc; rw [e1] at z; rw [z.2 (by omega)]; omega) | (have z := am_bh_109 hc; rw [z.1 (by omega)]; omega) | (have z := am_bh_109 hc; rw [e1] at z; rw [z.1 (by omega)]; omega) | (intro a b h1 h2 h3 h4; rw [am_uE h1, f1 a b h1 (by omega)]; exact hv1 a b h1 h2 h3) | (intro a b h1 h2 h3 h4; rw [f1 a b h1 (by omega)]; exact hv1 a b h1 h2 h3) | (have z := am_bh_109 hc; rw [e1] at z; rw [am_upS, if_pos ⟨rfl, rfl⟩, g1, z.2 (by omega)]) | (rw [am_upN (by decide), f1 _ _ (by omega) (by omega)]; exact hv3.trans hc.symm) | (rw [am_upN (by decide), f1 _ _ (by omega) (by omega)]; exact hv4) | (exact ⟨fun z => (by omega), fun z => (by omega), fun _ => (by rw [am_upN (by decide), am_upN (by decide), show 5 * s.toNat = (5 * s).toNat by omega, v1, v2, show q + 1 + 1 = q + 2 by omega]; exact ⟨rfl, rfl⟩), fun z => (by omega)⟩) | (have z := am_bh_109 hc; rw [g1, z.1 (by omega)]; omega) | (have z := am_bh_109 hc; rw [e1] at z; rw [g1, z.1 (by omega)]; omega) | (trace_state; fail))
  refine am_go (ct := fun pc => Nat.beq pc 70) am_oX7_statement 300 ?_
  conv => whnf
  repeat' first
    | (refine (?_ : am_wp _ _ _ _ _ _ _ _ _ _ _ _); conv => whnf)
    | (refine (?_ : am_sw _ _ _ _); conv => whnf)
    | refine And.intro trivial ?_
    | exact trivial
    | ((with_reducible refine (?_ : am_Does _ 149 _ _ _)); refine x_next t n q ?_ ?_ ?_ n0 n1 hL ?_ ?_ (fun v ev v0 v1 cv => ?_))
    | ((with_reducible refine (?_ : am_AW _ _ _ _ _ 70 _ _ _)); (refine lp70 _ _ ?_ ?_ ?_ ?_ ?_))
    | ((with_reducible refine (?_ : am_AW _ _ _ _ _ 70 _ _ _)); refine lp70 _ _ ?_ ?_ ?_ ?_ ?_)
    | refine And.intro (fun h => absurd h (by decide)) (fun _ => ?_)
    | refine And.intro (fun _ => ?_) (fun h => absurd (by decide) h)
    | refine And.intro (fun _ => ?_) (fun _ => ?_)
    | refine And.intro ?_ ?_
  all_goals (first | decide | exact ht | exact hn | exact hq | omega | (rw [am_upN (by decide), cs]; omega) | (intro a b h1 h2 h3; rw [am_uE h1, am_uE (by rw [am_upN (by decide), cs]; exact h3), am_uE (by rw [cs]; exact h2)]) | (rw [am_upS, if_pos ⟨rfl, rfl⟩, am_upN (by decide), am_upN (by decide), hq]) | (rw [am_upN (by decide), am_upN (by decide), am_upS, if_pos ⟨rfl, by rw [cs]⟩]; omega) | (rw [am_upN (by decide), am_upS, if_pos ⟨rfl, by rw [am_upN (by decide), cs]⟩, am_upN (by decide)]; exact hq) | (trace_state; fail))
theorem am_bh_115 {t : Nat → Int} {n q : Int} (hc : am_nx t n q = 115) : ((am_dn t n 3 (q + 1) - q - 1 < 3 ∨ am_nx t n (am_dn t n 3 (q + 1)) ≠ 59) → am_bh t n q = -1 - am_dn t n 3 (q + 1)) ∧ (¬(am_dn t n 3 (q + 1) - q - 1 < 3 ∨ am_nx t n (am_dn t n 3 (q + 1)) ≠ 59) → am_bh t n q = am_dn t n 3 (q + 1) + 1) := by
  have e : am_bh t n q = if am_dn t n 3 (q + 1) - q - 1 < 3 ∨ am_nx t n (am_dn t n 3 (q + 1)) ≠ 59 then -1 - am_dn t n 3 (q + 1) else am_dn t n 3 (q + 1) + 1 := by
    unfold am_bh
    rw [hc]
    rfl
  exact ⟨fun h => by rw [e, if_pos h], fun h => by rw [e, if_neg h]⟩
theorem x_st_115 {l : Launch} {ν : am_N} {Q : Option am_V → am_N → Prop} (t : Nat → Int) (n q s : Int) (ht : ν 94 = t) (hn : ν 83 21 = n) (hq : ν 83 22 = q) (n0 : 0 ≤ n) (n1 : n ≤ 96) (hL : ∀ i : Nat, (i : Int) < n → 0 ≤ t i ∧ t i ≤ 255) (es : ν 83 23 = s) (s0 : 0 ≤ s) (s1 : s < 48) (a0 : 0 ≤ q) (a1 : q ≤ n) (hc : am_nx t n q = 115) (k1 : 0 ≤ am_bh t n q → ∀ μ' : am_N, (∀ a b, ¬(a = 83 ∧ b = 22) → ¬(a = 95 ∧ b = s.toNat) → ¬(a = 96 ∧ b = s.toNat) → ¬(a = 97 ∧ 5 * s.toNat ≤ b ∧ b < 5 * s.toNat + 5) → μ' a b = ν a b) → μ' 83 22 = am_bh t n q → μ' 95 s.toNat = am_nx t n q → μ' 96 s.toNat = q → fp_td t n q (μ' 97) (5 * s.toNat) → Q (some (.inl 1)) μ') (k0 : am_bh t n q < 0 → ∀ μ' : am_N, (∀ a b, ¬(a = 83 ∧ b = 22) → ¬(a = 95 ∧ b = s.toNat) → ¬(a = 96 ∧ b = s.toNat) → ¬(a = 97 ∧ 5 * s.toNat ≤ b ∧ b < 5 * s.toNat + 5) → μ' a b = ν a b) → μ' 83 22 = -1 - am_bh t n q → Q (some (.inl 0)) μ') : am_Does l 153 [.inr (.inr 83)] ν Q := by
  refine am_Does_of (Nat.le_of_ble_eq_true rfl) (Nat.le_of_ble_eq_true rfl) (Nat.le_of_ble_eq_true rfl) ?_
  have l0 : am_c 0 = 0 := rfl
  have l1 : am_c 1 = 1 := rfl
  have l2 : am_c 2 = 2 := rfl
  have l3 : am_c 3 = 3 := rfl
  have l4 : am_c 4 = 4 := rfl
  have l5 : am_c 5 = 5 := rfl
  have l8 : am_c 8 = 8 := rfl
  have l10 : am_c 10 = 10 := rfl
  have l20 : am_c 20 = 20 := rfl
  have l40 : am_c 40 = 40 := rfl
  have l48 : am_c 48 = 48 := rfl
  have l57 : am_c 57 = 57 := rfl
  have l59 : am_c 59 = 59 := rfl
  have l103 : am_c 103 = 103 := rfl
  have l109 : am_c 109 = 109 := rfl
  have l114 : am_c 114 = 114 := rfl
  have l115 : am_c 115 = 115 := rfl
  have l119 : am_c 119 = 119 := rfl
  have l200 : am_c 200 = 200 := rfl
  have l999 : am_c 999 = 999 := rfl
  have qn : q < n := by
    by_cases z : q < n
    · exact z
    · rw [show am_nx t n q = -1 from if_neg (by omega)] at hc; omega
  have db := am_dn_b t n 3 (q + 1)
  have dn := am_dn_n t n 3 (q + 1) (by omega)
  have cs : am_c (ν 83 23) = s := by rw [es]; exact am_cR (by omega) (by omega)
  have lp70 : ∀ (v : Int) (μ : am_N), v = 115 → (∀ a b, ¬(a = 83 ∧ b = 22) → ¬(a = 95 ∧ b = s.toNat) → ¬(a = 96 ∧ b = s.toNat) → μ a b = ν a b) → μ 83 22 = q + 1 → μ 95 s.toNat = 115 → μ 96 s.toNat = q → am_AW l 0 (fun _ => 0) 153 Q 70 [some (.inr (.inr 83)), some (.inl v)] [] μ := by
    intro v μ hv0 hv1 hv2 hv3 hv4
    subst hv0
    have e23 : μ 83 23 = s := (hv1 83 23 (by omega) (by omega) (by omega)).trans es
    have e94 : μ 94 = t := (funext (fun b => hv1 94 b (by omega) (by omega) (by omega))).trans ht
    have e21 : μ 83 21 = n := (hv1 83 21 (by omega) (by omega) (by omega)).trans hn
    refine am_go (ct := fun pc => Nat.beq pc 70) am_oX7_statement 300 ?_
    conv => whnf
    repeat' first
      | (refine (?_ : am_wp _ _ _ _ _ _ _ _ _ _ _ _); conv => whnf)
      | (refine (?_ : am_sw _ _ _ _); conv => whnf)
      | refine And.intro trivial ?_
      | exact trivial
      | (exact ⟨fun z => (by omega), fun z => (by omega), fun z => (by omega), fun _ => (by rw [am_upN (by decide), am_upN (by decide), show 5 * s.toNat = (5 * s).toNat by omega, v1, v2, show q + 1 + 1 = q + 2 by omega]; exact ⟨rfl, rfl⟩)⟩)
      | ((with_reducible refine (?_ : am_Does _ 152 _ _ _)); refine x_ra_115 t n (q + 1) (5 * s) _ ?_ ?_ ?_ n0 n1 hL (by rw [e23]) ?_ ?_ ?_ ?_ (fun μ1 f1 e1 g1 v1 v2 => ?_) (fun μ1 f1 e1 g1 => ?_))
      | ((with_reducible refine (?_ : am_Does _ 149 _ _ _)); first | refine x_next t n (q + 1 + 3) ?_ ?_ ?_ n0 n1 hL ?_ ?_ (fun w ew w0 w1 cw => ?_) | refine x_next t n q ?_ ?_ ?_ n0 n1 hL ?_ ?_ (fun v ev v0 v1 cv => ?_))
      | refine k1 ?_ _ ?_ ?_ ?_ ?_ ?_
      | refine k0 ?_ _ ?_ ?_
      | ((with_reducible refine (?_ : am_AW _ _ _ _ _ 70 _ _ _)); (refine lp70 _ _ ?_ ?_ ?_ ?_ ?_))
      | refine And.intro (fun h => absurd h (by decide)) (fun _ => ?_)
      | refine And.intro (fun _ => ?_) (fun h => absurd (by decide) h)
      | refine And.intro (fun _ => ?_) (fun _ => ?_)
      | refine And.intro ?_ ?_
    all_goals (first | decide | exact e94 | exact e21 | exact hv2 | omega | (refine Eq.trans (funext fun b => f1 94 b (by omega) (by omega)) e94) | (rw [f1 _ _ (by omega) (by omega)]; exact e21) | exact g1 | (have z := am_bh_115 hc; rw [e1] at z; rw [z.2 (by omega)]; omega) | (have z := am_bh_115 hc; rw [z.1 (by omega)]; omega) | (have z := am_bh_115 hc; rw [e1] at z; rw [z.1 (by omega)]; omega) | (intro a b h1 h2 h3 h4; rw [am_uE h1, f1 a b h1 (by omega)]; exact hv1 a b h1 h2 h3) | (intro a b h1 h2 h3 h4; rw [f1 a b h1 (by omega)]; exact hv1 a b h1 h2 h3) | (have z := am_bh_115 hc; rw [e1] at z; rw [am_upS, if_pos ⟨rfl, rfl⟩, g1, z.2 (by omega)]) | (rw [am_upN (by decide), f1 _ _ (by omega) (by omega)]; exact hv3.trans hc.symm) | (rw [am_upN (by decide), f1 _ _ (by omega) (by omega)]; exact hv4) | (exact ⟨fun z => (by omega), fun z => (by omega), fun z => (by omega), fun _ => (by rw [am_upN (by decide), am_upN (by decide), show 5 * s.toNat = (5 * s).toNat by omega, v1, v2, show q + 1 + 1 = q + 2 by omega]; exact ⟨rfl, rfl⟩)⟩) | (have z := am_bh_115 hc; rw [g1, z.1 (by omega)]; omega) | (have z := am_bh_115 hc; rw [e1] at z; rw [g1, z.1 (by omega)]; omega) | (trace_state; fail))
  refine am_go (ct := fun pc => Nat.beq pc 70) am_oX7_statement 300 ?_
  conv => whnf
  repeat' first
    | (refine (?_ : am_wp _ _ _ _ _ _ _ _ _ _ _ _); conv => whnf)
    | (refine (?_ : am_sw _ _ _ _); conv => whnf)
    | refine And.intro trivial ?_
    | exact trivial
    | ((with_reducible refine (?_ : am_Does _ 149 _ _ _)); refine x_next t n q ?_ ?_ ?_ n0 n1 hL ?_ ?_ (fun v ev v0 v1 cv => ?_))
    | ((with_reducible refine (?_ : am_AW _ _ _ _ _ 70 _ _ _)); (refine lp70 _ _ ?_ ?_ ?_ ?_ ?_))
    | ((with_reducible refine (?_ : am_AW _ _ _ _ _ 70 _ _ _)); refine lp70 _ _ ?_ ?_ ?_ ?_ ?_)
    | refine And.intro (fun h => absurd h (by decide)) (fun _ => ?_)
    | refine And.intro (fun _ => ?_) (fun h => absurd (by decide) h)
    | refine And.intro (fun _ => ?_) (fun _ => ?_)
    | refine And.intro ?_ ?_
  all_goals (first | decide | exact ht | exact hn | exact hq | omega | (rw [am_upN (by decide), cs]; omega) | (intro a b h1 h2 h3; rw [am_uE h1, am_uE (by rw [am_upN (by decide), cs]; exact h3), am_uE (by rw [cs]; exact h2)]) | (rw [am_upS, if_pos ⟨rfl, rfl⟩, am_upN (by decide), am_upN (by decide), hq]) | (rw [am_upN (by decide), am_upN (by decide), am_upS, if_pos ⟨rfl, by rw [cs]⟩]; omega) | (rw [am_upN (by decide), am_upS, if_pos ⟨rfl, by rw [am_upN (by decide), cs]⟩, am_upN (by decide)]; exact hq) | (trace_state; fail))
theorem am_bh_103 {t : Nat → Int} {n q : Int} (hc : am_nx t n q = 103) : ((am_dn t n 0 (q + 1) - q - 1 < 0 ∨ am_nx t n (am_dn t n 0 (q + 1)) ≠ 59) → am_bh t n q = -1 - am_dn t n 0 (q + 1)) ∧ (¬(am_dn t n 0 (q + 1) - q - 1 < 0 ∨ am_nx t n (am_dn t n 0 (q + 1)) ≠ 59) → am_bh t n q = am_dn t n 0 (q + 1) + 1) := by
  have e : am_bh t n q = if am_dn t n 0 (q + 1) - q - 1 < 0 ∨ am_nx t n (am_dn t n 0 (q + 1)) ≠ 59 then -1 - am_dn t n 0 (q + 1) else am_dn t n 0 (q + 1) + 1 := by
    unfold am_bh
    rw [hc]
    rfl
  exact ⟨fun h => by rw [e, if_pos h], fun h => by rw [e, if_neg h]⟩
theorem x_st_103 {l : Launch} {ν : am_N} {Q : Option am_V → am_N → Prop} (t : Nat → Int) (n q s : Int) (ht : ν 94 = t) (hn : ν 83 21 = n) (hq : ν 83 22 = q) (n0 : 0 ≤ n) (n1 : n ≤ 96) (hL : ∀ i : Nat, (i : Int) < n → 0 ≤ t i ∧ t i ≤ 255) (es : ν 83 23 = s) (s0 : 0 ≤ s) (s1 : s < 48) (a0 : 0 ≤ q) (a1 : q ≤ n) (hc : am_nx t n q = 103) (k1 : 0 ≤ am_bh t n q → ∀ μ' : am_N, (∀ a b, ¬(a = 83 ∧ b = 22) → ¬(a = 95 ∧ b = s.toNat) → ¬(a = 96 ∧ b = s.toNat) → ¬(a = 97 ∧ 5 * s.toNat ≤ b ∧ b < 5 * s.toNat + 5) → μ' a b = ν a b) → μ' 83 22 = am_bh t n q → μ' 95 s.toNat = am_nx t n q → μ' 96 s.toNat = q → fp_td t n q (μ' 97) (5 * s.toNat) → Q (some (.inl 1)) μ') (k0 : am_bh t n q < 0 → ∀ μ' : am_N, (∀ a b, ¬(a = 83 ∧ b = 22) → ¬(a = 95 ∧ b = s.toNat) → ¬(a = 96 ∧ b = s.toNat) → ¬(a = 97 ∧ 5 * s.toNat ≤ b ∧ b < 5 * s.toNat + 5) → μ' a b = ν a b) → μ' 83 22 = -1 - am_bh t n q → Q (some (.inl 0)) μ') : am_Does l 153 [.inr (.inr 83)] ν Q := by
  refine am_Does_of (Nat.le_of_ble_eq_true rfl) (Nat.le_of_ble_eq_true rfl) (Nat.le_of_ble_eq_true rfl) ?_
  have l0 : am_c 0 = 0 := rfl
  have l1 : am_c 1 = 1 := rfl
  have l2 : am_c 2 = 2 := rfl
  have l3 : am_c 3 = 3 := rfl
  have l4 : am_c 4 = 4 := rfl
  have l5 : am_c 5 = 5 := rfl
  have l8 : am_c 8 = 8 := rfl
  have l10 : am_c 10 = 10 := rfl
  have l20 : am_c 20 = 20 := rfl
  have l40 : am_c 40 = 40 := rfl
  have l48 : am_c 48 = 48 := rfl
  have l57 : am_c 57 = 57 := rfl
  have l59 : am_c 59 = 59 := rfl
  have l103 : am_c 103 = 103 := rfl
  have l109 : am_c 109 = 109 := rfl
  have l114 : am_c 114 = 114 := rfl
  have l115 : am_c 115 = 115 := rfl
  have l119 : am_c 119 = 119 := rfl
  have l200 : am_c 200 = 200 := rfl
  have l999 : am_c 999 = 999 := rfl
  have qn : q < n := by
    by_cases z : q < n
    · exact z
    · rw [show am_nx t n q = -1 from if_neg (by omega)] at hc; omega
  have db := am_dn_b t n 0 (q + 1)
  have dn := am_dn_n t n 0 (q + 1) (by omega)
  have cs : am_c (ν 83 23) = s := by rw [es]; exact am_cR (by omega) (by omega)
  have lp70 : ∀ (v : Int) (μ : am_N), v = 103 → (∀ a b, ¬(a = 83 ∧ b = 22) → ¬(a = 95 ∧ b = s.toNat) → ¬(a = 96 ∧ b = s.toNat) → μ a b = ν a b) → μ 83 22 = q + 1 → μ 95 s.toNat = 103 → μ 96 s.toNat = q → am_AW l 0 (fun _ => 0) 153 Q 70 [some (.inr (.inr 83)), some (.inl v)] [] μ := by
    intro v μ hv0 hv1 hv2 hv3 hv4
    subst hv0
    have e23 : μ 83 23 = s := (hv1 83 23 (by omega) (by omega) (by omega)).trans es
    have e94 : μ 94 = t := (funext (fun b => hv1 94 b (by omega) (by omega) (by omega))).trans ht
    have e21 : μ 83 21 = n := (hv1 83 21 (by omega) (by omega) (by omega)).trans hn
    refine am_go (ct := fun pc => Nat.beq pc 70) am_oX7_statement 300 ?_
    conv => whnf
    repeat' first
      | (refine (?_ : am_wp _ _ _ _ _ _ _ _ _ _ _ _); conv => whnf)
      | (refine (?_ : am_sw _ _ _ _); conv => whnf)
      | refine And.intro trivial ?_
      | exact trivial
      | (exact ⟨fun z => (by omega), fun z => (by omega), fun z => (by omega), fun z => (by omega)⟩)
      | ((with_reducible refine (?_ : am_Does _ 152 _ _ _)); refine x_ra_103 _ ?_)
      | ((with_reducible refine (?_ : am_Does _ 149 _ _ _)); first | refine x_next t n (q + 1) ?_ ?_ ?_ n0 n1 hL ?_ ?_ (fun w ew w0 w1 cw => ?_) | refine x_next t n q ?_ ?_ ?_ n0 n1 hL ?_ ?_ (fun v ev v0 v1 cv => ?_))
      | refine k1 ?_ _ ?_ ?_ ?_ ?_ ?_
      | refine k0 ?_ _ ?_ ?_
      | ((with_reducible refine (?_ : am_AW _ _ _ _ _ 70 _ _ _)); (refine lp70 _ _ ?_ ?_ ?_ ?_ ?_))
      | refine And.intro (fun h => absurd h (by decide)) (fun _ => ?_)
      | refine And.intro (fun _ => ?_) (fun h => absurd (by decide) h)
      | refine And.intro (fun _ => ?_) (fun _ => ?_)
      | refine And.intro ?_ ?_
    all_goals (first | decide | exact e94 | exact e21 | exact hv2 | omega | (refine Eq.trans (funext fun b => f1 94 b (by omega) (by omega)) e94) | (rw [f1 _ _ (by omega) (by omega)]; exact e21) | exact g1 | (have z := am_bh_103 hc; rw [show am_dn t n 0 (q + 1) = q + 1 from rfl] at z; rw [z.2 (by omega)]; omega) | (have z := am_bh_103 hc; rw [z.1 (by omega)]; omega) | (have z := am_bh_103 hc; rw [show am_dn t n 0 (q + 1) = q + 1 from rfl] at z; rw [z.1 (by omega)]; omega) | (intro a b h1 h2 h3 h4; rw [am_uE h1]; exact hv1 a b h1 h2 h3) | (intro a b h1 h2 h3 h4; exact hv1 a b h1 h2 h3) | (have z := am_bh_103 hc; rw [show am_dn t n 0 (q + 1) = q + 1 from rfl] at z; rw [am_upS, if_pos ⟨rfl, rfl⟩, hv2, z.2 (by omega)]) | (rw [am_upN (by decide)]; exact hv3.trans hc.symm) | (rw [am_upN (by decide)]; exact hv4) | (exact ⟨fun z => (by omega), fun z => (by omega), fun z => (by omega), fun z => (by omega)⟩) | (have z := am_bh_103 hc; rw [hv2, z.1 (by omega)]; omega) | (have z := am_bh_103 hc; rw [show am_dn t n 0 (q + 1) = q + 1 from rfl] at z; rw [hv2, z.1 (by omega)]; omega) | (trace_state; fail))
  refine am_go (ct := fun pc => Nat.beq pc 70) am_oX7_statement 300 ?_
  conv => whnf
  repeat' first
    | (refine (?_ : am_wp _ _ _ _ _ _ _ _ _ _ _ _); conv => whnf)
    | (refine (?_ : am_sw _ _ _ _); conv => whnf)
    | refine And.intro trivial ?_
    | exact trivial
    | ((with_reducible refine (?_ : am_Does _ 149 _ _ _)); refine x_next t n q ?_ ?_ ?_ n0 n1 hL ?_ ?_ (fun v ev v0 v1 cv => ?_))
    | ((with_reducible refine (?_ : am_AW _ _ _ _ _ 70 _ _ _)); (refine lp70 _ _ ?_ ?_ ?_ ?_ ?_))
    | ((with_reducible refine (?_ : am_AW _ _ _ _ _ 70 _ _ _)); refine lp70 _ _ ?_ ?_ ?_ ?_ ?_)
    | refine And.intro (fun h => absurd h (by decide)) (fun _ => ?_)
    | refine And.intro (fun _ => ?_) (fun h => absurd (by decide) h)
    | refine And.intro (fun _ => ?_) (fun _ => ?_)
    | refine And.intro ?_ ?_
  all_goals (first | decide | exact ht | exact hn | exact hq | omega | (rw [am_upN (by decide), cs]; omega) | (intro a b h1 h2 h3; rw [am_uE h1, am_uE (by rw [am_upN (by decide), cs]; exact h3), am_uE (by rw [cs]; exact h2)]) | (rw [am_upS, if_pos ⟨rfl, rfl⟩, am_upN (by decide), am_upN (by decide), hq]) | (rw [am_upN (by decide), am_upN (by decide), am_upS, if_pos ⟨rfl, by rw [cs]⟩]; omega) | (rw [am_upN (by decide), am_upS, if_pos ⟨rfl, by rw [am_upN (by decide), cs]⟩, am_upN (by decide)]; exact hq) | (trace_state; fail))
theorem x_st_no {l : Launch} {ν : am_N} {Q : Option am_V → am_N → Prop} (t : Nat → Int) (n q s : Int) (ht : ν 94 = t) (hn : ν 83 21 = n) (hq : ν 83 22 = q) (n0 : 0 ≤ n) (n1 : n ≤ 96) (hL : ∀ i : Nat, (i : Int) < n → 0 ≤ t i ∧ t i ≤ 255) (es : ν 83 23 = s) (s0 : 0 ≤ s) (s1 : s < 48) (a0 : 0 ≤ q) (a1 : q ≤ n) (hc : am_ld (am_nx t n q) < 0) (k1 : 0 ≤ am_bh t n q → ∀ μ' : am_N, (∀ a b, ¬(a = 83 ∧ b = 22) → ¬(a = 95 ∧ b = s.toNat) → ¬(a = 96 ∧ b = s.toNat) → ¬(a = 97 ∧ 5 * s.toNat ≤ b ∧ b < 5 * s.toNat + 5) → μ' a b = ν a b) → μ' 83 22 = am_bh t n q → μ' 95 s.toNat = am_nx t n q → μ' 96 s.toNat = q → fp_td t n q (μ' 97) (5 * s.toNat) → Q (some (.inl 1)) μ') (k0 : am_bh t n q < 0 → ∀ μ' : am_N, (∀ a b, ¬(a = 83 ∧ b = 22) → ¬(a = 95 ∧ b = s.toNat) → ¬(a = 96 ∧ b = s.toNat) → ¬(a = 97 ∧ 5 * s.toNat ≤ b ∧ b < 5 * s.toNat + 5) → μ' a b = ν a b) → μ' 83 22 = -1 - am_bh t n q → Q (some (.inl 0)) μ') : am_Does l 153 [.inr (.inr 83)] ν Q := by
  refine am_Does_of (Nat.le_of_ble_eq_true rfl) (Nat.le_of_ble_eq_true rfl) (Nat.le_of_ble_eq_true rfl) ?_
  have l0 : am_c 0 = 0 := rfl
  have l1 : am_c 1 = 1 := rfl
  have l2 : am_c 2 = 2 := rfl
  have l3 : am_c 3 = 3 := rfl
  have l4 : am_c 4 = 4 := rfl
  have l5 : am_c 5 = 5 := rfl
  have l8 : am_c 8 = 8 := rfl
  have l10 : am_c 10 = 10 := rfl
  have l20 : am_c 20 = 20 := rfl
  have l40 : am_c 40 = 40 := rfl
  have l48 : am_c 48 = 48 := rfl
  have l57 : am_c 57 = 57 := rfl
  have l59 : am_c 59 = 59 := rfl
  have l103 : am_c 103 = 103 := rfl
  have l109 : am_c 109 = 109 := rfl
  have l114 : am_c 114 = 114 := rfl
  have l115 : am_c 115 = 115 := rfl
  have l119 : am_c 119 = 119 := rfl
  have l200 : am_c 200 = 200 := rfl
  have l999 : am_c 999 = 999 := rfl
  have hd : am_nx t n q ≠ 119 ∧ am_nx t n q ≠ 114 ∧ am_nx t n q ≠ 109 ∧ am_nx t n q ≠ 115 ∧ am_nx t n q ≠ 103 := by
    refine ⟨?_, ?_, ?_, ?_, ?_⟩ <;> (intro z; rw [z] at hc; exact absurd hc (by decide))
  have hb := am_bh_1 hc
  refine am_go (ct := fun _ => false) am_oX7_statement 300 ?_
  conv => whnf
  repeat' first
    | (refine (?_ : am_wp _ _ _ _ _ _ _ _ _ _ _ _); conv => whnf)
    | (refine (?_ : am_sw _ _ _ _); conv => whnf)
    | refine And.intro trivial ?_
    | exact trivial
    | ((with_reducible refine (?_ : am_Does _ 149 _ _ _)); refine x_next t n q ?_ ?_ ?_ n0 n1 hL ?_ ?_ (fun v ev v0 v1 cv => ?_))
    | refine k0 ?_ _ ?_ ?_
    | ((with_reducible refine (?_ : _ ∧ _)); refine And.intro (fun h => absurd (show am_nx t n q = _ by rw [← ev, ← cv]; exact h) (by first | exact hd.1 | exact hd.2.1 | exact hd.2.2.1 | exact hd.2.2.2.1 | exact hd.2.2.2.2)) (fun _ => ?_))
    | refine And.intro (fun h => absurd h (by decide)) (fun _ => ?_)
    | refine And.intro (fun _ => ?_) (fun h => absurd (by decide) h)
    | refine And.intro (fun _ => ?_) (fun _ => ?_)
    | refine And.intro ?_ ?_
  all_goals (first | decide | exact ht | exact hn | exact hq | omega | exact fun _ _ _ _ _ _ => rfl | (trace_state; fail))
theorem x_statement {l : Launch} {ν : am_N} {Q : Option am_V → am_N → Prop} (t : Nat → Int) (n q s : Int) (ht : ν 94 = t) (hn : ν 83 21 = n) (hq : ν 83 22 = q) (n0 : 0 ≤ n) (n1 : n ≤ 96) (hL : ∀ i : Nat, (i : Int) < n → 0 ≤ t i ∧ t i ≤ 255) (es : ν 83 23 = s) (s0 : 0 ≤ s) (s1 : s < 48) (a0 : 0 ≤ q) (a1 : q ≤ n) (k1 : 0 ≤ am_bh t n q → ∀ μ' : am_N, (∀ a b, ¬(a = 83 ∧ b = 22) → ¬(a = 95 ∧ b = s.toNat) → ¬(a = 96 ∧ b = s.toNat) → ¬(a = 97 ∧ 5 * s.toNat ≤ b ∧ b < 5 * s.toNat + 5) → μ' a b = ν a b) → μ' 83 22 = am_bh t n q → μ' 95 s.toNat = am_nx t n q → μ' 96 s.toNat = q → fp_td t n q (μ' 97) (5 * s.toNat) → Q (some (.inl 1)) μ') (k0 : am_bh t n q < 0 → ∀ μ' : am_N, (∀ a b, ¬(a = 83 ∧ b = 22) → ¬(a = 95 ∧ b = s.toNat) → ¬(a = 96 ∧ b = s.toNat) → ¬(a = 97 ∧ 5 * s.toNat ≤ b ∧ b < 5 * s.toNat + 5) → μ' a b = ν a b) → μ' 83 22 = -1 - am_bh t n q → Q (some (.inl 0)) μ') : am_Does l 153 [.inr (.inr 83)] ν Q := by
  by_cases hc : am_ld (am_nx t n q) < 0
  · exact x_st_no t n q s ht hn hq n0 n1 hL es s0 s1 a0 a1 hc k1 k0
  · have hd : am_nx t n q = 119 ∨ am_nx t n q = 114 ∨ am_nx t n q = 109 ∨ am_nx t n q = 115 ∨ am_nx t n q = 103 := by
      unfold am_ld at hc
      repeat' split at hc
      all_goals omega
    rcases hd with h | h | h | h | h
    · exact x_st_119 t n q s ht hn hq n0 n1 hL es s0 s1 a0 a1 h k1 k0
    · exact x_st_114 t n q s ht hn hq n0 n1 hL es s0 s1 a0 a1 h k1 k0
    · exact x_st_109 t n q s ht hn hq n0 n1 hL es s0 s1 a0 a1 h k1 k0
    · exact x_st_115 t n q s ht hn hq n0 n1 hL es s0 s1 a0 a1 h k1 k0
    · exact x_st_103 t n q s ht hn hq n0 n1 hL es s0 s1 a0 a1 h k1 k0
