/-! what the model has told of a STATEMENT -/
def fp_td (t : Nat → Int) (n p : Int) (w : Nat → Int) (o : Nat) : Prop :=
  (am_nx t n p = 119 → w o = fp_w t n p) ∧
  (am_nx t n p = 114 → w o = am_dt t n (p + 1) ∧ w (o + 1) = am_dt t n (p + 2) ∧ w (o + 2) = fp_2 t n (p + 3) ∧ w (o + 3) = fp_2 t n (p + 5) ∧ w (o + 4) = fp_2 t n (p + 7)) ∧
  (am_nx t n p = 109 → w o = am_dt t n (p + 1) ∧ w (o + 1) = am_dt t n (p + 2)) ∧
  (am_nx t n p = 115 → w o = am_dt t n (p + 1) ∧ w (o + 1) = fp_2 t n (p + 2))
theorem fp_td_e {t : Nat → Int} {n p : Int} {w u : Nat → Int} {o : Nat} (h : fp_td t n p w o) (e : ∀ i : Nat, o ≤ i → i < o + 5 → u i = w i) : fp_td t n p u o := by
  obtain ⟨h1, h2, h3, h4⟩ := h
  unfold fp_td
  rw [e o (by omega) (by omega), e (o + 1) (by omega) (by omega), e (o + 2) (by omega) (by omega), e (o + 3) (by omega) (by omega), e (o + 4) (by omega) (by omega)]
  exact ⟨h1, h2, h3, h4⟩
theorem am_dv_2d {t : Nat → Int} {n q : Int} (h : am_dn t n 2 q = q + 2) : am_dv t n 2 q 0 = fp_2 t n q := by
  have a := am_dn_d t n 2 q h 0 (by decide)
  have b := am_dn_d t n 2 q h 1 (by decide)
  exact am_dv_2 t n q (by simpa using a) b
theorem am_dv_1d {t : Nat → Int} {n q : Int} (h : am_dn t n 1 q = q + 1) : am_dv t n 1 q 0 = am_dt t n q := by
  have a := am_dn_d t n 1 q h 0 (by decide)
  exact am_dv_1 t n q (by simpa using a)
theorem am_dn2_1 {t : Nat → Int} {n a : Int} (e1 : am_dn t n 1 a ≠ a + 1) : am_dn t n 2 a = am_dn t n 1 a := am_dn_x (m := 1) 1 e1
theorem am_dn2_2 {t : Nat → Int} {n a : Int} (e1 : am_dn t n 1 a = a + 1) : am_dn t n 2 a = am_dn t n 1 (a + 1) := am_dn_o (m := 1) 1 e1
theorem am_dn3_1 {t : Nat → Int} {n a : Int} (e1 : am_dn t n 1 a ≠ a + 1) : am_dn t n 3 a = am_dn t n 1 a := am_dn_x (m := 1) 2 e1
theorem am_dn3_2 {t : Nat → Int} {n a : Int} (e1 : am_dn t n 1 a = a + 1) : am_dn t n 3 a = am_dn t n 2 (a + 1) := am_dn_o (m := 1) 2 e1
theorem x_next {l : Launch} {ν : am_N} {Q : Option am_V → am_N → Prop} (t : Nat → Int) (n q : Int) (ht : ν 94 = t) (hn : ν 83 21 = n) (hq : ν 83 22 = q) (n0 : 0 ≤ n) (n1 : n ≤ 96) (hL : ∀ i : Nat, (i : Int) < n → 0 ≤ t i ∧ t i ≤ 255) (a0 : 0 ≤ q) (a1 : q ≤ 200) (k : ∀ v : Int, v = am_nx t n q → -1 ≤ v → v ≤ 255 → am_c v = v → Q (some (.inl v)) ν) : am_Does l 149 [.inr (.inr 83)] ν Q := by
  refine am_Does_of (Nat.le_of_ble_eq_true rfl) (Nat.le_of_ble_eq_true rfl) (Nat.le_of_ble_eq_true rfl) ?_
  have l0 : am_c 0 = 0 := rfl
  have l1 : am_c 1 = 1 := rfl
  have l2 : am_c 2 = 2 := rfl
  have l3 : am_c 3 = 3 := rfl
  have l4 : am_c 4 = 4 := rfl
  have l5 : am_c 5 = 5 := rfl
  have l8 : am_c 8 = 8 := rfl
  have l10 : am_c 10 = 10 := rfl
  have l20 : am_c 20 = 20 := rfl
  have l40 : am_c 40 = 40 := rfl
  have l48 : am_c 48 = 48 := rfl
  have l57 : am_c 57 = 57 := rfl
  have l59 : am_c 59 = 59 := rfl
  have l103 : am_c 103 = 103 := rfl
  have l109 : am_c 109 = 109 := rfl
  have l114 : am_c 114 = 114 := rfl
  have l115 : am_c 115 = 115 := rfl
  have l119 : am_c 119 = 119 := rfl
  have l200 : am_c 200 = 200 := rfl
  have l999 : am_c 999 = 999 := rfl
  have ca : am_c (ν 83 22) = q := by rw [hq]; exact am_cR (by omega) (by omega)
  have cn : am_c (ν 83 21) = n := by rw [hn]; exact am_cR (by omega) (by omega)
  have hb := am_nx_b hL q
  have kk := k _ rfl hb.1 hb.2 (am_cR (by omega) (by omega))
  clear hb
  refine am_go (ct := fun _ => false) am_oX7_next 300 ?_
  conv => whnf
  repeat' first
    | (refine (?_ : am_wp _ _ _ _ _ _ _ _ _ _ _ _); conv => whnf)
    | (refine (?_ : am_sw _ _ _ _); conv => whnf)
    | refine And.intro trivial ?_
    | exact trivial
    | refine am_qe kk ?_
    | refine And.intro (fun h => absurd h (by decide)) (fun _ => ?_)
    | refine And.intro (fun _ => ?_) (fun h => absurd (by decide) h)
    | refine And.intro (fun _ => ?_) (fun _ => ?_)
    | refine And.intro ?_ ?_
  all_goals (first | decide | omega | (simp only [ca, cn] at *; omega) | (unfold am_nx; rw [if_pos (by simp only [ca, cn] at *; omega), ca, ht]) | (unfold am_nx; rw [if_neg (by simp only [ca, cn] at *; omega)]) | (trace_state; fail))
theorem x_isIn {l : Launch} {μ : am_N} {Q : Option am_V → am_N → Prop} (w v a b : Int) (e : w = v) (cv : am_c w = w) (ca : am_c a = a) (cb : am_c b = b) (k1 : a ≤ w → w ≤ b → Q (some (.inl 1)) μ) (k2 : w < a ∨ b < w → Q (some (.inl 0)) μ) : am_Does l 143 [.inl v, .inl a, .inl b] μ Q := by
  refine am_Does_of (Nat.le_of_ble_eq_true rfl) (Nat.le_of_ble_eq_true rfl) (Nat.le_of_ble_eq_true rfl) ?_
  subst e
  refine am_go (ct := fun _ => false) am_oX7_isIn 300 ?_
  conv => whnf
  repeat' first
    | (refine (?_ : am_wp _ _ _ _ _ _ _ _ _ _ _ _); conv => whnf)
    | (refine (?_ : am_sw _ _ _ _); conv => whnf)
    | refine And.intro trivial ?_
    | exact trivial
    | refine k1 ?_ ?_
    | refine k2 ?_
    | refine And.intro (fun h => absurd h (by decide)) (fun _ => ?_)
    | refine And.intro (fun _ => ?_) (fun h => absurd (by decide) h)
    | refine And.intro (fun _ => ?_) (fun _ => ?_)
    | refine And.intro ?_ ?_
  all_goals (first | omega | (trace_state; fail))
theorem x_readsNumber {l : Launch} {ν : am_N} {Q : Option am_V → am_N → Prop} (t : Nat → Int) (n q o s M : Int) (ht : ν 94 = t) (hn : ν 83 21 = n) (hq : ν 83 22 = q) (n0 : 0 ≤ n) (n1 : n ≤ 96) (hL : ∀ i : Nat, (i : Int) < n → 0 ≤ t i ∧ t i ≤ 255) (o0 : 0 ≤ o) (o1 : o < 240) (s0 : 0 ≤ s) (s1 : s ≤ 9) (m0 : 0 ≤ M) (m1 : M ≤ 3) (a0 : 0 ≤ q) (a1 : q ≤ 150) (k : ∀ (e : Int) (μ' : am_N), e = am_dn t n M.toNat q → q ≤ e → e ≤ q + M → (∀ a b, ¬(a = 83 ∧ b = 22) → ¬(a = 97 ∧ b = o.toNat) → μ' a b = ν a b) → μ' 83 22 = e → μ' 97 o.toNat = am_dv t n M.toNat q 0 → Q (some (.inl (if s ≤ e - q then 1 else 0))) μ') : am_Does l 150 [.inr (.inr 83), .inl o, .inl s, .inl M] ν Q := by
  refine am_Does_of (Nat.le_of_ble_eq_true rfl) (Nat.le_of_ble_eq_true rfl) (Nat.le_of_ble_eq_true rfl) ?_
  have l0 : am_c 0 = 0 := rfl
  have l1 : am_c 1 = 1 := rfl
  have l2 : am_c 2 = 2 := rfl
  have l3 : am_c 3 = 3 := rfl
  have l4 : am_c 4 = 4 := rfl
  have l5 : am_c 5 = 5 := rfl
  have l8 : am_c 8 = 8 := rfl
  have l10 : am_c 10 = 10 := rfl
  have l20 : am_c 20 = 20 := rfl
  have l40 : am_c 40 = 40 := rfl
  have l48 : am_c 48 = 48 := rfl
  have l57 : am_c 57 = 57 := rfl
  have l59 : am_c 59 = 59 := rfl
  have l103 : am_c 103 = 103 := rfl
  have l109 : am_c 109 = 109 := rfl
  have l114 : am_c 114 = 114 := rfl
  have l115 : am_c 115 = 115 := rfl
  have l119 : am_c 119 = 119 := rfl
  have l200 : am_c 200 = 200 := rfl
  have l999 : am_c 999 = 999 := rfl
  have co : am_c o = o := am_cR (by omega) (by omega)
  have cs : am_c s = s := am_cR (by omega) (by omega)
  have cM : am_c M = M := am_cR (by omega) (by omega)
  have hd := am_dn_b t n M.toNat q
  have hv := am_dv_b t n M.toNat q 0 (by decide)
  have hp : (10 : Int) ^ M.toNat ≤ 1000 := by rcases (show M.toNat = 0 ∨ M.toNat = 1 ∨ M.toNat = 2 ∨ M.toNat = 3 by omega) with h | h | h | h <;> rw [h] <;> decide
  have kk := fun (e : Int) (μ' : am_N) (x : Int) b1 b2 b3 b4 b5 b6 (g : x = (if s ≤ e - q then 1 else 0)) => am_qe (k e μ' b1 b2 b3 b4 b5 b6) g
  have lp57 : ∀ (v j : Int) (μ : am_N), (∀ a b, ¬(a = 83 ∧ b = 22) → μ a b = ν a b) → μ 83 22 = q + j → 0 ≤ j → j ≤ M → q + j = am_dn t n M.toNat q → v = am_dv t n M.toNat q 0 → am_AW l 0 (fun _ => 0) 150 Q 57 [some (.inr (.inr 83)), some (.inl o), some (.inl s), some (.inl M), some (.inl v), some (.inl j)] [] μ := by
    intro v j μ hv0 hv1 hv2 hv3 hv4 hv5
    have cj : am_c j = j := am_cR (by omega) (by omega)
    refine am_go (ct := fun pc => Nat.beq pc 57 || Nat.beq pc 6) am_oX7_readsNumber 300 ?_
    conv => whnf
    repeat' first
      | (refine (?_ : am_wp _ _ _ _ _ _ _ _ _ _ _ _); conv => whnf)
      | (refine (?_ : am_sw _ _ _ _); conv => whnf)
      | refine And.intro trivial ?_
      | exact trivial
      | refine kk (q + j) _ _ hv4 ?_ ?_ ?_ ?_ ?_ ?_
      | refine And.intro (fun h => absurd h (by decide)) (fun _ => ?_)
      | refine And.intro (fun _ => ?_) (fun h => absurd (by decide) h)
      | refine And.intro (fun _ => ?_) (fun _ => ?_)
      | refine And.intro ?_ ?_
    all_goals (first | decide | omega | (intro a b h1 h2; rw [am_uE (by rw [co]; exact h2)]; exact hv0 a b h1) | (rw [am_upN (by decide)]; exact hv1) | (rw [am_upS, if_pos ⟨rfl, by rw [co]⟩]; exact hv5) | (rw [if_pos (by omega)]) | (rw [if_neg (by omega)]) | (trace_state; fail))
  have lp6 : ∀ (m : Nat) (v j : Int) (μ : am_N) , (∀ a b, ¬(a = 83 ∧ b = 22) → μ a b = ν a b) → μ 83 22 = q + j → 0 ≤ j → j ≤ M → am_dn t n (M - j).toNat (q + j) = am_dn t n M.toNat q → am_dv t n (M - j).toNat (q + j) v = am_dv t n M.toNat q 0 → 0 ≤ v → M - j < (m : Int) → am_AW l 0 (fun _ => 0) 150 Q 6 [some (.inr (.inr 83)), some (.inl o), some (.inl s), some (.inl M), some (.inl v), some (.inl j)] [] μ := by
    intro m
    induction m with
    | zero =>
      intro v j μ hv0 hv1 hv2 hv3 hv4 hv5 hv6 hm
      exfalso
      omega
    | succ m ih =>
      intro v j μ hv0 hv1 hv2 hv3 hv4 hv5 hv6 hm
      have cj : am_c j = j := am_cR (by omega) (by omega)
      have et : μ 94 = t := (funext (fun b => hv0 94 b (by omega))).trans ht
      have en : μ 83 21 = n := (hv0 83 21 (by decide)).trans hn
      have hz := (am_dv_b t n (M - j).toNat (q + j) v hv6).1
      refine am_go (ct := fun pc => Nat.beq pc 57 || Nat.beq pc 6) am_oX7_readsNumber 300 ?_
      conv => whnf
      repeat' first
        | (refine (?_ : am_wp _ _ _ _ _ _ _ _ _ _ _ _); conv => whnf)
        | (refine (?_ : am_sw _ _ _ _); conv => whnf)
        | refine And.intro trivial ?_
        | exact trivial
        | ((with_reducible refine (?_ : am_Does _ 149 _ _ _)); refine x_next t n (q + j) ?_ ?_ ?_ n0 n1 hL ?_ ?_ (fun x ex x0 x1 cx => ?_))
        | ((with_reducible refine (?_ : am_Does _ 143 _ _ _)); refine x_isIn x _ _ _ rfl ?_ ?_ ?_ (fun _ _ => ?_) (fun _ => ?_))
        | ((with_reducible refine (?_ : am_AW _ _ _ _ _ 6 _ _ _)); refine ih _ _ _ ?_ ?_ ?_ ?_ ?_ ?_ ?_ ?_)
        | ((with_reducible refine (?_ : am_AW _ _ _ _ _ 57 _ _ _)); refine lp57 _ _ _ ?_ ?_ ?_ ?_ ?_ ?_)
        | refine And.intro (fun h => absurd h (by decide)) (fun _ => ?_)
        | refine And.intro (fun _ => ?_) (fun h => absurd (by decide) h)
        | refine And.intro (fun _ => ?_) (fun _ => ?_)
        | refine And.intro ?_ ?_
      all_goals (first | decide | assumption | omega | (intro a b h; rw [am_uE h]; exact hv0 a b h) | (rw [am_upS, if_pos ⟨rfl, rfl⟩, hv1]; omega) | (rw [← hv4]; first | exact (am_dn_z (Or.inl (by omega))).symm | exact (am_dn_z (Or.inr (by rw [am_dt_o (by omega)]; decide))).symm) | (rw [← hv5]; first | exact (am_dv_z (Or.inl (by omega))).symm | exact (am_dv_z (Or.inr (by rw [am_dt_o (by omega)]; decide))).symm) | (have w := am_dt_i (t := t) (n := n) (q := q + j) (by omega) (by omega); have w0 : 0 ≤ am_dt t n (q + j) := (by omega); have jm : j < M := (by omega); first | (rw [← hv4, am_dn_s jm w0, show q + (j + 1) = q + j + 1 by omega]) | (rw [← hv5, am_dv_s jm w0, show q + (j + 1) = q + j + 1 by omega, show (10 * v + x - 48 : Int) = 10 * v + am_dt t n (q + j) by omega])) | (trace_state; fail))
  have lp6' : ∀ (v j : Int) (μ : am_N) , (∀ a b, ¬(a = 83 ∧ b = 22) → μ a b = ν a b) → μ 83 22 = q + j → 0 ≤ j → j ≤ M → am_dn t n (M - j).toNat (q + j) = am_dn t n M.toNat q → am_dv t n (M - j).toNat (q + j) v = am_dv t n M.toNat q 0 → 0 ≤ v → am_AW l 0 (fun _ => 0) 150 Q 6 [some (.inr (.inr 83)), some (.inl o), some (.inl s), some (.inl M), some (.inl v), some (.inl j)] [] μ := fun v j μ hv0 hv1 hv2 hv3 hv4 hv5 hv6 => lp6 ((M - j) + 1).toNat v j μ hv0 hv1 hv2 hv3 hv4 hv5 hv6 (by omega)
  refine am_go (ct := fun pc => Nat.beq pc 57 || Nat.beq pc 6) am_oX7_readsNumber 300 ?_
  conv => whnf
  repeat' first
    | (refine (?_ : am_wp _ _ _ _ _ _ _ _ _ _ _ _); conv => whnf)
    | (refine (?_ : am_sw _ _ _ _); conv => whnf)
    | refine And.intro trivial ?_
    | exact trivial
    | ((with_reducible refine (?_ : am_AW _ _ _ _ _ 6 _ _ _)); refine lp6' _ _ _ ?_ ?_ ?_ ?_ ?_ ?_ ?_)
    | ((with_reducible refine (?_ : am_AW _ _ _ _ _ 57 _ _ _)); refine lp57 _ _ _ ?_ ?_ ?_ ?_ ?_ ?_)
    | refine And.intro (fun h => absurd h (by decide)) (fun _ => ?_)
    | refine And.intro (fun _ => ?_) (fun h => absurd (by decide) h)
    | refine And.intro (fun _ => ?_) (fun _ => ?_)
    | refine And.intro ?_ ?_
  all_goals (first | decide | assumption | omega | exact fun _ _ _ => rfl | (rw [show M - 0 = M by omega, show q + 0 = q by omega]) | (trace_state; fail))
