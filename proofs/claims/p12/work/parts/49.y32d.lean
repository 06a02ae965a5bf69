theorem s_gapAll {l : Launch} {ν : am_N} {Q : Option am_V → am_N → Prop} (T S : Nat → Int) (n0 : 0 ≤ ν 29 0) (n1 : 1 ≤ ν 29 0) (n4 : ν 29 0 ≤ 4) (hb : ∀ j : Nat, (j : Int) < ν 29 0 → (0 ≤ ν 30 j ∧ ν 30 j ≤ 200000) ∧ (0 ≤ ν 31 j ∧ ν 31 j ≤ 200000) ∧ (0 ≤ ν 32 j ∧ ν 32 j ≤ 200000)) (hr : ∀ q : Nat, (q : Int) < ν 29 0 → ν 30 q = fp_pt (T q) (S q) 0 ∧ ν 31 q = T q ∧ ν 32 q = T q + S q) (hp : sx_3 ν 34) (k : ∀ μ' : am_N, (∀ a b, a ≠ 33 → a ≠ 34 → μ' a b = ν a b) → sx_3 μ' 34 → Q (some (.inl (fp_su (fun c : Nat => fp_ew c (ν 29 0).toNat * fp_gz (fun j => fp_pt (T j) (S j) (fp_cp (fp_ej c j))) (ν 29 0)) (fp_3n (ν 29 0).toNat)))) μ') : am_Does l 31 [.inr (.inr 29)] ν Q := by
  refine am_Does_of (Nat.le_of_ble_eq_true rfl) (Nat.le_of_ble_eq_true rfl) (Nat.le_of_ble_eq_true rfl) ?_
  have l0 : am_c 0 = 0 := rfl
  have l1 : am_c 1 = 1 := rfl
  have l2 : am_c 2 = 2 := rfl
  have l3 : am_c 3 = 3 := rfl
  have l10 : am_c 10 = 10 := rfl
  have cn : am_c (ν 29 0) = ν 29 0 := am_cR (by omega) (by omega)
  obtain ⟨N, hN⟩ : ∃ N : Int, N = ((fp_3n (ν 29 0).toNat : Nat) : Int) := ⟨_, rfl⟩
  have p3 : 1 ≤ N ∧ N ≤ 81 := by have h := fp_3n_b (n := (ν 29 0).toNat) (by omega); rw [hN]; exact ⟨by omega, by omega⟩
  have c3 : am_c N = N := am_cR (by omega) (by omega)
  have lp9 : ∀ (m : Nat) (y w c : Int) (o5 : Option am_V) (μ : am_N) , (∀ a b, a ≠ 33 → a ≠ 34 → μ a b = ν a b) → 0 ≤ c → c ≤ N → y = N → w = fp_su (fun c : Nat => fp_ew c (ν 29 0).toNat * fp_gz (fun j => fp_pt (T j) (S j) (fp_cp (fp_ej c j))) (ν 29 0)) c.toNat → sx_3 μ 34 → N - c < (m : Int) → am_AW l 0 (fun _ => 0) 31 Q 9 [some (.inr (.inr 29)), some (.inl y), some (.inl w), some (.inl c), o5] [] μ := by
    intro m
    induction m with
    | zero =>
      intro y w c o5 μ hv0 hv1 hv2 hv3 hv4 hv5 hm
      clear hv4 k hb hr
      exfalso
      omega
    | succ m ih =>
      intro y w c o5 μ hv0 hv1 hv2 hv3 hv4 hv5 hm
      have cc : am_c c = c := am_cR (by omega) (by omega)
      have cy : am_c y = N := by rw [hv3]; exact c3
      have e29 : μ 29 0 = ν 29 0 := hv0 29 0 (by decide) (by decide)
      have er : ∀ a b, 30 ≤ a → a ≤ 32 → μ a b = ν a b := fun a b q1 q2 => hv0 a b (by omega) (by omega)
      refine am_go (ct := fun pc => Nat.beq pc 9) am_oX2_gapInAllWays 300 ?_
      conv => whnf
      repeat' first
        | (refine (?_ : am_wp _ _ _ _ _ _ _ _ _ _ _ _); conv => whnf)
        | (refine (?_ : am_sw _ _ _ _); conv => whnf)
        | refine And.intro trivial ?_
        | exact trivial
        | ((with_reducible refine (?_ : am_Does _ 29 _ _ _)); (have cN : c < N := (by (simp only [cc, cy] at *; first | done | omega)); refine s_deal c (by rw [e29]; exact n0) (by rw [e29]; exact n4) hv1 (by omega) (fun j hj => by rw [e29] at hj; rw [er 30 j (by decide) (by decide), er 31 j (by decide) (by decide), er 32 j (by decide) (by decide)]; exact hb j hj) (fun μ2 g2 t2 o2 b2 => ?_); rw [e29] at t2 o2 ⊢; have e29' : μ2 29 0 = ν 29 0 := (g2 29 0 (by decide) (by decide)).trans e29; have u2 : ∀ q : Nat, (q : Int) < ν 29 0 → μ2 33 q = fp_pt (T q) (S q) (fp_cp (fp_ej c.toNat q)) := (fun q hq => by obtain ⟨h1, h2, h3⟩ := hr q hq; rw [t2 q hq, er 30 q (by decide) (by decide), er 31 q (by decide) (by decide), er 32 q (by decide) (by decide), h1, h2, h3]; exact fp_r3_p (fp_ej_3 _ _))))
        | ((with_reducible refine (?_ : am_Does _ 39 _ _ _)); (refine s_gapZ (by rw [e29']; omega) (by rw [e29']; exact n4) (by rw [e29']; exact o2) ?_; rw [e29']))
        | ((with_reducible refine (?_ : Q _ _)); (have cE : c.toNat = fp_3n (ν 29 0).toNat := (by (simp only [cc, cy] at *; first | done | omega)); refine am_qe (k _ hv0 hv5) ?_))
        | ((with_reducible refine (?_ : am_Does _ 28 _ _ _)); (refine s_outcomes n0 n4 ?_))
        | ((with_reducible refine (?_ : am_AW _ _ _ _ _ 9 _ _ _)); refine ih _ _ _ _ _ ?_ ?_ ?_ ?_ ?_ ?_ ?_)
        | refine And.intro (fun h => absurd h (by decide)) (fun _ => ?_)
        | refine And.intro (fun _ => ?_) (fun h => absurd (by decide) h)
        | refine And.intro (fun _ => ?_) (fun _ => ?_)
        | refine And.intro ?_ ?_
      all_goals (first | omega | (with_reducible assumption) | ((simp only [cc, cy] at *; first | done | omega)) | (intro a b q1 q2; rw [g2 a b q1 q2]; exact hv0 a b q1 q2) | exact b2 hv5 | (rw [show (c + 1).toNat = c.toNat + 1 by omega, hv4, fp_gz_e n4 u2]; rfl) | (rw [hv4, cE]) | decide | assumption | (trace_state; fail))
  have lp9' : ∀ (y w c : Int) (o5 : Option am_V) (μ : am_N) , (∀ a b, a ≠ 33 → a ≠ 34 → μ a b = ν a b) → 0 ≤ c → c ≤ N → y = N → w = fp_su (fun c : Nat => fp_ew c (ν 29 0).toNat * fp_gz (fun j => fp_pt (T j) (S j) (fp_cp (fp_ej c j))) (ν 29 0)) c.toNat → sx_3 μ 34 → am_AW l 0 (fun _ => 0) 31 Q 9 [some (.inr (.inr 29)), some (.inl y), some (.inl w), some (.inl c), o5] [] μ := fun y w c o5 μ hv0 hv1 hv2 hv3 hv4 hv5 => lp9 ((N - c) + 1).toNat y w c o5 μ hv0 hv1 hv2 hv3 hv4 hv5 (by omega)
  refine am_go (ct := fun pc => Nat.beq pc 9) am_oX2_gapInAllWays 300 ?_
  conv => whnf
  repeat' first
    | (refine (?_ : am_wp _ _ _ _ _ _ _ _ _ _ _ _); conv => whnf)
    | (refine (?_ : am_sw _ _ _ _); conv => whnf)
    | refine And.intro trivial ?_
    | exact trivial
    | ((with_reducible refine (?_ : am_Does _ 28 _ _ _)); (refine s_outcomes n0 n4 ?_))
    | ((with_reducible refine (?_ : am_AW _ _ _ _ _ 9 _ _ _)); refine lp9' _ _ _ _ _ ?_ ?_ ?_ ?_ ?_ ?_)
    | refine And.intro (fun h => absurd h (by decide)) (fun _ => ?_)
    | refine And.intro (fun _ => ?_) (fun h => absurd (by decide) h)
    | refine And.intro (fun _ => ?_) (fun _ => ?_)
    | refine And.intro ?_ ?_
  all_goals (first | omega | (with_reducible assumption) | exact hN.symm | rfl | (intros; rfl) | (trace_state; fail))
