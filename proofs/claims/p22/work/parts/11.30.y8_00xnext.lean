/-! what the model has told of a STATEMENT -/
def fp_td (t : Nat → Int) (n p : Int) (w : Nat → Int) (o : Nat) : Prop :=
  (am_nx t n p = 119 → w o = fp_w t n p) ∧
  (am_nx t n p = 114 → w o = am_dt t n (p + 1) ∧ w (o + 1) = am_dt t n (p + 2) ∧ w (o + 2) = fp_2 t n (p + 3) ∧ w (o + 3) = fp_2 t n (p + 5) ∧ w (o + 4) = fp_2 t n (p + 7)) ∧
  (am_nx t n p = 109 → w o = am_dt t n (p + 1) ∧ w (o + 1) = am_dt t n (p + 2)) ∧
  (am_nx t n p = 115 → w o = am_dt t n (p + 1) ∧ w (o + 1) = fp_2 t n (p + 2))
theorem fp_td_e {t : Nat → Int} {n p : Int} {w u : Nat → Int} {o : Nat} (h : fp_td t n p w o) (e : ∀ i : Nat, o ≤ i → i < o + 5 → u i = w i) : fp_td t n p u o := by
  obtain ⟨h1, h2, h3, h4⟩ := h
  unfold fp_td
  rw [e o (by omega) (by omega), e (o + 1) (by omega) (by omega), e (o + 2) (by omega) (by omega), e (o + 3) (by omega) (by omega), e (o + 4) (by omega) (by omega)]
  exact ⟨h1, h2, h3, h4⟩
theorem am_dv_2d {t : Nat → Int} {n q : Int} (h : am_dn t n 2 q = q + 2) : am_dv t n 2 q 0 = fp_2 t n q := by
  have a := am_dn_d t n 2 q h 0 (by decide)
  have b := am_dn_d t n 2 q h 1 (by decide)
  exact am_dv_2 t n q (by simpa using a) b
theorem am_dv_1d {t : Nat → Int} {n q : Int} (h : am_dn t n 1 q = q + 1) : am_dv t n 1 q 0 = am_dt t n q := by
  have a := am_dn_d t n 1 q h 0 (by decide)
  exact am_dv_1 t n q (by simpa using a)
theorem am_dn2_1 {t : Nat → Int} {n a : Int} (e1 : am_dn t n 1 a ≠ a + 1) : am_dn t n 2 a = am_dn t n 1 a := am_dn_x (m := 1) 1 e1
theorem am_dn2_2 {t : Nat → Int} {n a : Int} (e1 : am_dn t n 1 a = a + 1) : am_dn t n 2 a = am_dn t n 1 (a + 1) := am_dn_o (m := 1) 1 e1
theorem am_dn3_1 {t : Nat → Int} {n a : Int} (e1 : am_dn t n 1 a ≠ a + 1) : am_dn t n 3 a = am_dn t n 1 a := am_dn_x (m := 1) 2 e1
theorem am_dn3_2 {t : Nat → Int} {n a : Int} (e1 : am_dn t n 1 a = a + 1) : am_dn t n 3 a = am_dn t n 2 (a + 1) := am_dn_o (m := 1) 2 e1
theorem x_next {l : Launch} {ν : am_N} {Q : Option am_V → am_N → Prop} (t : Nat → Int) (n q : Int) (ht : ν 94 = t) (hn : ν 83 21 = n) (hq : ν 83 22 = q) (n0 : 0 ≤ n) (n1 : n ≤ 96) (hL : ∀ i : Nat, (i : Int) < n → 0 ≤ t i ∧ t i ≤ 255) (a0 : 0 ≤ q) (a1 : q ≤ 200) (k : ∀ v : Int, v = am_nx t n q → -1 ≤ v → v ≤ 255 → am_c v = v → Q (some (.inl v)) ν) : am_Does l 149 [.inr (.inr 83)] ν Q := by
  refine am_Does_of (Nat.le_of_ble_eq_true rfl) (Nat.le_of_ble_eq_true rfl) (Nat.le_of_ble_eq_true rfl) ?_
  have l0 : am_c 0 = 0 := rfl
  have l1 : am_c 1 = 1 := rfl
  have l2 : am_c 2 = 2 := rfl
  have l3 : am_c 3 = 3 := rfl
  have l4 : am_c 4 = 4 := rfl
  have l5 : am_c 5 = 5 := rfl
  have l8 : am_c 8 = 8 := rfl
  have l10 : am_c 10 = 10 := rfl
  have l20 : am_c 20 = 20 := rfl
  have l40 : am_c 40 = 40 := rfl
  have l48 : am_c 48 = 48 := rfl
  have l57 : am_c 57 = 57 := rfl
  have l59 : am_c 59 = 59 := rfl
  have l103 : am_c 103 = 103 := rfl
  have l109 : am_c 109 = 109 := rfl
  have l114 : am_c 114 = 114 := rfl
  have l115 : am_c 115 = 115 := rfl
  have l119 : am_c 119 = 119 := rfl
  have l200 : am_c 200 = 200 := rfl
  have l999 : am_c 999 = 999 := rfl
  have ca : am_c (ν 83 22) = q := by rw [hq]; exact am_cR (by omega) (by omega)
  have cn : am_c (ν 83 21) = n := by rw [hn]; exact am_cR (by omega) (by omega)
  have hb := am_nx_b hL q
  have kk := k _ rfl hb.1 hb.2 (am_cR (by omega) (by omega))
  clear hb
  refine am_go (ct := fun _ => false) am_oX7_next 300 ?_
  conv => whnf
  repeat' first
    | (refine (?_ : am_wp _ _ _ _ _ _ _ _ _ _ _ _); conv => whnf)
    | (refine (?_ : am_sw _ _ _ _); conv => whnf)
    | refine And.intro trivial ?_
    | exact trivial
    | refine am_qe kk ?_
    | refine And.intro (fun h => absurd h (by decide)) (fun _ => ?_)
    | refine And.intro (fun _ => ?_) (fun h => absurd (by decide) h)
    | refine And.intro (fun _ => ?_) (fun _ => ?_)
    | refine And.intro ?_ ?_
  all_goals (first | decide | omega | (simp only [ca, cn] at *; omega) | (unfold am_nx; rw [if_pos (by simp only [ca, cn] at *; omega), ca, ht]) | (unfold am_nx; rw [if_neg (by simp only [ca, cn] at *; omega)]) | (trace_state; fail))
