theorem s_waysOf {l : Launch} {ν : am_N} {Q : Option am_V → am_N → Prop} (D : Int) (cD : am_c D = D) (T S : Nat → Int) (n0 : 0 ≤ ν 29 0) (n4 : ν 29 0 ≤ 4) (hb : ∀ j : Nat, (j : Int) < ν 29 0 → (0 ≤ ν 30 j ∧ ν 30 j ≤ 200000) ∧ (0 ≤ ν 31 j ∧ ν 31 j ≤ 200000) ∧ (0 ≤ ν 32 j ∧ ν 32 j ≤ 200000)) (hr : ∀ q : Nat, (q : Int) < ν 29 0 → ν 30 q = fp_pt (T q) (S q) 0 ∧ ν 31 q = T q ∧ ν 32 q = T q + S q) (hp : sx_3 ν 34) (k : ∀ μ' : am_N, (∀ a b, a ≠ 33 → a ≠ 34 → μ' a b = ν a b) → sx_3 μ' 34 → Q (some (.inl (fp_su (fp_wD T S (ν 29 0) D) (fp_3n (ν 29 0).toNat)))) μ') : am_Does l 30 [.inr (.inr 29), .inl D] ν Q := by
  refine am_Does_of (Nat.le_of_ble_eq_true rfl) (Nat.le_of_ble_eq_true rfl) (Nat.le_of_ble_eq_true rfl) ?_
  have l0 : am_c 0 = 0 := rfl
  have l1 : am_c 1 = 1 := rfl
  have l2 : am_c 2 = 2 := rfl
  have l3 : am_c 3 = 3 := rfl
  have l10 : am_c 10 = 10 := rfl
  have cn : am_c (ν 29 0) = ν 29 0 := am_cR (by omega) (by omega)
  obtain ⟨N, hN⟩ : ∃ N : Int, N = ((fp_3n (ν 29 0).toNat : Nat) : Int) := ⟨_, rfl⟩
  have p3 : 1 ≤ N ∧ N ≤ 81 := by have h := fp_3n_b (n := (ν 29 0).toNat) (by omega); rw [hN]; exact ⟨by omega, by omega⟩
  have c3 : am_c N = N := am_cR (by omega) (by omega)
  have lp10 : ∀ (m : Nat) (y w c : Int) (o5 : Option am_V) (μ : am_N) , (∀ a b, a ≠ 33 → a ≠ 34 → μ a b = ν a b) → 0 ≤ c → c ≤ N → y = N → w = fp_su (fp_wD T S (ν 29 0) D) c.toNat → sx_3 μ 34 → N - c < (m : Int) → am_AW l 0 (fun _ => 0) 30 Q 10 [some (.inr (.inr 29)), some (.inl D), some (.inl y), some (.inl w), some (.inl c), o5] [] μ := by
    intro m
    induction m with
    | zero =>
      intro y w c o5 μ hv0 hv1 hv2 hv3 hv4 hv5 hm
      clear hv4 k hb hr
      exfalso
      omega
    | succ m ih =>
      intro y w c o5 μ hv0 hv1 hv2 hv3 hv4 hv5 hm
      have cc : am_c c = c := am_cR (by omega) (by omega)
      have cy : am_c y = N := by rw [hv3]; exact c3
      have e29 : μ 29 0 = ν 29 0 := hv0 29 0 (by decide) (by decide)
      have er : ∀ a b, 30 ≤ a → a ≤ 32 → μ a b = ν a b := fun a b q1 q2 => hv0 a b (by omega) (by omega)
      refine am_go (ct := fun pc => Nat.beq pc 10) am_oX2_waysOf 300 ?_
      conv => whnf
      repeat' first
        | (refine (?_ : am_wp _ _ _ _ _ _ _ _ _ _ _ _); conv => whnf)
        | (refine (?_ : am_sw _ _ _ _); conv => whnf)
        | refine And.intro trivial ?_
        | exact trivial
        | ((with_reducible refine (?_ : am_Does _ 29 _ _ _)); (have cN : c < N := (by (simp only [cc, cy] at *; first | done | omega)); refine s_deal c (by rw [e29]; exact n0) (by rw [e29]; exact n4) hv1 (by omega) (fun j hj => by rw [e29] at hj; rw [er 30 j (by decide) (by decide), er 31 j (by decide) (by decide), er 32 j (by decide) (by decide)]; exact hb j hj) (fun μ2 g2 t2 o2 b2 => ?_); rw [e29] at t2 o2 ⊢; have e29' : μ2 29 0 = ν 29 0 := (g2 29 0 (by decide) (by decide)).trans e29; have u2 : ∀ q : Nat, (q : Int) < ν 29 0 → μ2 33 q = fp_pt (T q) (S q) (fp_cp (fp_ej c.toNat q)) := (fun q hq => by obtain ⟨h1, h2, h3⟩ := hr q hq; rw [t2 q hq, er 30 q (by decide) (by decide), er 31 q (by decide) (by decide), er 32 q (by decide) (by decide), h1, h2, h3]; exact fp_r3_p (fp_ej_3 _ _))))
        | ((with_reducible refine (?_ : am_Does _ 40 _ _ _)); (refine x_digits (by rw [e29']; exact n0) (by rw [e29']; exact n4) ?_))
        | ((with_reducible refine (?_ : Q _ _)); (have cE : c.toNat = fp_3n (ν 29 0).toNat := (by (simp only [cc, cy] at *; first | done | omega)); refine am_qe (k _ hv0 hv5) ?_))
        | ((with_reducible refine (?_ : am_Does _ 28 _ _ _)); (refine s_outcomes n0 n4 ?_))
        | ((with_reducible refine (?_ : am_AW _ _ _ _ _ 10 _ _ _)); refine ih _ _ _ _ _ ?_ ?_ ?_ ?_ ?_ ?_ ?_)
        | refine And.intro (fun h => absurd h (by decide)) (fun _ => ?_)
        | refine And.intro (fun _ => ?_) (fun h => absurd (by decide) h)
        | refine And.intro (fun _ => ?_) (fun _ => ?_)
        | refine And.intro ?_ ?_
      all_goals (first | omega | (with_reducible assumption) | ((simp only [cc, cy] at *; first | done | omega)) | (intro a b q1 q2; rw [g2 a b q1 q2]; exact hv0 a b q1 q2) | exact b2 hv5 | (have ed : am_dg (μ2 34) (ν 29 0).toNat 0 = am_dg (fun p => fp_od (fun j => fp_pt (T j) (S j) (fp_cp (fp_ej c.toNat j))) (ν 29 0) (p : Int)) (ν 29 0).toNat 0 := am_dg_eq _ _ (fun p hp => by rw [fp_od_o n4 o2 p (by omega)]; exact fp_od_i2 n4 (by omega) u2); have xx : am_c (am_dg (μ2 34) (ν 29 0).toNat 0) = am_dg (fun p => fp_od (fun j => fp_pt (T j) (S j) (fp_cp (fp_ej c.toNat j))) (ν 29 0) (p : Int)) (ν 29 0).toNat 0 := (by rw [ed]; exact am_dg_c n4 (fp_od (fun j => fp_pt (T j) (S j) (fp_cp (fp_ej c.toNat j))) (ν 29 0)) (fun p => fp_od_b _ _ _)); rw [show (c + 1).toNat = c.toNat + 1 by omega]; rw [fp_wD_s]; have xx2 : am_c (am_dg (μ2 34) (μ2 29 0).toNat 0) = am_dg (fun p => fp_od (fun j => fp_pt (T j) (S j) (fp_cp (fp_ej c.toNat j))) (ν 29 0) (p : Int)) (ν 29 0).toNat 0 := (by rw [e29']; exact xx); first | (rw [if_pos (by omega), Int.mul_one]; omega) | (rw [if_neg (by omega), Int.mul_zero]; omega)) | (rw [hv4, cE]) | decide | assumption | (trace_state; fail))
  have lp10' : ∀ (y w c : Int) (o5 : Option am_V) (μ : am_N) , (∀ a b, a ≠ 33 → a ≠ 34 → μ a b = ν a b) → 0 ≤ c → c ≤ N → y = N → w = fp_su (fp_wD T S (ν 29 0) D) c.toNat → sx_3 μ 34 → am_AW l 0 (fun _ => 0) 30 Q 10 [some (.inr (.inr 29)), some (.inl D), some (.inl y), some (.inl w), some (.inl c), o5] [] μ := fun y w c o5 μ hv0 hv1 hv2 hv3 hv4 hv5 => lp10 ((N - c) + 1).toNat y w c o5 μ hv0 hv1 hv2 hv3 hv4 hv5 (by omega)
  refine am_go (ct := fun pc => Nat.beq pc 10) am_oX2_waysOf 300 ?_
  conv => whnf
  repeat' first
    | (refine (?_ : am_wp _ _ _ _ _ _ _ _ _ _ _ _); conv => whnf)
    | (refine (?_ : am_sw _ _ _ _); conv => whnf)
    | refine And.intro trivial ?_
    | exact trivial
    | ((with_reducible refine (?_ : am_Does _ 28 _ _ _)); (refine s_outcomes n0 n4 ?_))
    | ((with_reducible refine (?_ : am_AW _ _ _ _ _ 10 _ _ _)); refine lp10' _ _ _ _ _ ?_ ?_ ?_ ?_ ?_ ?_)
    | refine And.intro (fun h => absurd h (by decide)) (fun _ => ?_)
    | refine And.intro (fun _ => ?_) (fun h => absurd (by decide) h)
    | refine And.intro (fun _ => ?_) (fun _ => ?_)
    | refine And.intro ?_ ?_
  all_goals (first | omega | (with_reducible assumption) | exact hN.symm | rfl | (intros; rfl) | (trace_state; fail))
