theorem s_outcomes {l : Launch} {ν : am_N} {Q : Option am_V → am_N → Prop} (n0 : 0 ≤ ν 29 0) (n4 : ν 29 0 ≤ 4) (k : Q (some (.inl ((fp_3n (ν 29 0).toNat : Nat) : Int))) ν) : am_Does l 28 [.inr (.inr 29)] ν Q := by
  refine am_Does_of (Nat.le_of_ble_eq_true rfl) (Nat.le_of_ble_eq_true rfl) (Nat.le_of_ble_eq_true rfl) ?_
  have l0 : am_c 0 = 0 := rfl
  have l1 : am_c 1 = 1 := rfl
  have l2 : am_c 2 = 2 := rfl
  have l3 : am_c 3 = 3 := rfl
  have l10 : am_c 10 = 10 := rfl
  have cn : am_c (ν 29 0) = ν 29 0 := am_cR (by omega) (by omega)
  have lp4 : ∀ (m : Nat) (x i : Int) , 0 ≤ i → i ≤ ν 29 0 → x = ((fp_3n i.toNat : Nat) : Int) → ν 29 0 - i < (m : Int) → am_AW l 0 (fun _ => 0) 28 Q 4 [some (.inr (.inr 29)), some (.inl x), some (.inl i)] [] ν := by
    intro m
    induction m with
    | zero =>
      intro x i  hv0 hv1 hv2 hm
      exfalso
      omega
    | succ m ih =>
      intro x i  hv0 hv1 hv2 hm
      have ci : am_c i = i := am_cR (by omega) (by omega)
      refine am_go (ct := fun pc => Nat.beq pc 4) am_oX2_outcomes 300 ?_
      conv => whnf
      repeat' first
        | (refine (?_ : am_wp _ _ _ _ _ _ _ _ _ _ _ _); conv => whnf)
        | (refine (?_ : am_sw _ _ _ _); conv => whnf)
        | refine And.intro trivial ?_
        | exact trivial
        | refine am_qe k ?_
        | ((with_reducible refine (?_ : am_AW _ _ _ _ _ 4 _ _ _)); refine ih _ _  ?_ ?_ ?_ ?_)
        | refine And.intro (fun h => absurd h (by decide)) (fun _ => ?_)
        | refine And.intro (fun _ => ?_) (fun h => absurd (by decide) h)
        | refine And.intro (fun _ => ?_) (fun _ => ?_)
        | refine And.intro ?_ ?_
      all_goals (first | omega | (with_reducible assumption) | ((simp only [ci, cn] at *; first | done | omega)) | (rw [show (i + 1).toNat = i.toNat + 1 by omega, fp_3n_s, hv2]; omega) | (rw [hv2, show i.toNat = (ν 29 0).toNat by (simp only [ci, cn] at *; first | done | omega)]) | decide | assumption | (trace_state; fail))
  have lp4' : ∀ (x i : Int) , 0 ≤ i → i ≤ ν 29 0 → x = ((fp_3n i.toNat : Nat) : Int) → am_AW l 0 (fun _ => 0) 28 Q 4 [some (.inr (.inr 29)), some (.inl x), some (.inl i)] [] ν := fun x i  hv0 hv1 hv2 => lp4 ((ν 29 0 - i) + 1).toNat x i  hv0 hv1 hv2 (by omega)
  refine am_go (ct := fun pc => Nat.beq pc 4) am_oX2_outcomes 300 ?_
  conv => whnf
  repeat' first
    | (refine (?_ : am_wp _ _ _ _ _ _ _ _ _ _ _ _); conv => whnf)
    | (refine (?_ : am_sw _ _ _ _); conv => whnf)
    | refine And.intro trivial ?_
    | exact trivial
    | ((with_reducible refine (?_ : am_AW _ _ _ _ _ 4 _ _ _)); refine lp4' _ _  ?_ ?_ ?_)
    | refine And.intro (fun h => absurd h (by decide)) (fun _ => ?_)
    | refine And.intro (fun _ => ?_) (fun h => absurd (by decide) h)
    | refine And.intro (fun _ => ?_) (fun _ => ?_)
    | refine And.intro ?_ ?_
  all_goals (first | omega | (with_reducible assumption) | rfl | (trace_state; fail))
theorem s_deal {l : Launch} {ν : am_N} {Q : Option am_V → am_N → Prop} (c : Int) (n0 : 0 ≤ ν 29 0) (n4 : ν 29 0 ≤ 4) (c0 : 0 ≤ c) (c1 : c < 81) (hb : ∀ j : Nat, (j : Int) < ν 29 0 → (0 ≤ ν 30 j ∧ ν 30 j ≤ 200000) ∧ (0 ≤ ν 31 j ∧ ν 31 j ≤ 200000) ∧ (0 ≤ ν 32 j ∧ ν 32 j ≤ 200000)) (k : ∀ μ' : am_N, (∀ a b, a ≠ 33 → a ≠ 34 → μ' a b = ν a b) → (∀ q : Nat, (q : Int) < ν 29 0 → μ' 33 q = fp_r3 (ν 30 q) (ν 31 q) (ν 32 q) (fp_ej c.toNat q)) → am_isord μ' 34 (μ' 33) (ν 29 0) → (sx_3 ν 34 → sx_3 μ' 34) → Q (some (.inl (fp_ew c.toNat (ν 29 0).toNat))) μ') : am_Does l 29 [.inr (.inr 29), .inl c] ν Q := by
  refine am_Does_of (Nat.le_of_ble_eq_true rfl) (Nat.le_of_ble_eq_true rfl) (Nat.le_of_ble_eq_true rfl) ?_
  have l0 : am_c 0 = 0 := rfl
  have l1 : am_c 1 = 1 := rfl
  have l2 : am_c 2 = 2 := rfl
  have l3 : am_c 3 = 3 := rfl
  have l10 : am_c 10 = 10 := rfl
  have cn : am_c (ν 29 0) = ν 29 0 := am_cR (by omega) (by omega)
  have lp7 : ∀ (m : Nat) (y w i : Int) (o5 : Option am_V) (μ : am_N) , (∀ a b, a ≠ 33 → μ a b = ν a b) → 0 ≤ i → i ≤ ν 29 0 → y = ((fp_q3 c.toNat i.toNat : Nat) : Int) → w = fp_ew c.toNat i.toNat → (∀ q : Nat, (q : Int) < i → μ 33 q = fp_r3 (ν 30 q) (ν 31 q) (ν 32 q) (fp_ej c.toNat q)) → ν 29 0 - i < (m : Int) → am_AW l 0 (fun _ => 0) 29 Q 7 [some (.inr (.inr 29)), some (.inl c), some (.inl y), some (.inl w), some (.inl i), o5] [] μ := by
    intro m
    induction m with
    | zero =>
      intro y w i o5 μ hv0 hv1 hv2 hv3 hv4 hv5 hm
      exfalso
      omega
    | succ m ih =>
      intro y w i o5 μ hv0 hv1 hv2 hv3 hv4 hv5 hm
      have ci : am_c i = i := am_cR (by omega) (by omega)
      have ei : (am_c i).toNat = i.toNat := by rw [ci]
      have e29 : μ 29 0 = ν 29 0 := hv0 29 0 (by decide)
      have yb := fp_q3_l c.toNat i.toNat
      have cy : am_c y = y := am_cR (by omega) (by omega)
      have erem : (am_c y).tmod (am_c 3) = ((fp_ej c.toNat i.toNat : Nat) : Int) := by rw [cy, l3, Int.tmod_eq_emod_of_nonneg (by omega), hv3, fp_q3_e]; omega
      have ediv : (am_c y).tdiv (am_c 3) = ((fp_q3 c.toNat (i.toNat + 1) : Nat) : Int) := by rw [cy, l3, Int.tdiv_eq_ediv_of_nonneg (by omega), hv3, fp_q3_s]; omega
      have e3 := fp_ej_3 c.toNat i.toNat
      have ce : am_c (((fp_ej c.toNat i.toNat : Nat) : Int)) = ((fp_ej c.toNat i.toNat : Nat) : Int) := am_cR (by omega) (by omega)
      refine am_go (ct := fun pc => Nat.beq pc 7) am_oX2_deal 300 ?_
      conv => whnf
      repeat' first
        | (refine (?_ : am_wp _ _ _ _ _ _ _ _ _ _ _ _); conv => whnf)
        | (refine (?_ : am_sw _ _ _ _); conv => whnf)
        | refine And.intro trivial ?_
        | exact trivial
        | ((with_reducible refine (?_ : am_Does _ 36 _ _ _)); (have iE : i = ν 29 0 := (by (simp only [ci, e29, cn] at *; first | done | omega)); refine x_line (by rw [e29]; exact n0) (by rw [e29]; exact n4) (fun j hj => by rw [e29] at hj; have z := hb j hj; rw [hv5 j (by omega)]; unfold fp_r3; (repeat' split) <;> omega) (fun μ2 g2 o2 b2 => ?_); rw [e29] at o2; have e33 : μ2 33 = μ 33 := funext (fun b => g2 33 b (by decide))))
        | (refine am_qe (k μ2 (fun a b q1 q2 => (g2 a b q2).trans (hv0 a b q1)) (fun q hq => by rw [e33]; exact hv5 q (by omega)) (by rw [e33]; exact o2) (fun p => b2 (fun x hx => by rw [hv0 34 x (by decide)]; exact p x hx))) ?_)
        | ((with_reducible refine (?_ : am_AW _ _ _ _ _ 7 _ _ _)); refine ih _ _ _ _ _ ?_ ?_ ?_ ?_ ?_ ?_ ?_)
        | refine And.intro (fun h => absurd h (by decide)) (fun _ => ?_)
        | refine And.intro (fun _ => ?_) (fun h => absurd (by decide) h)
        | refine And.intro (fun _ => ?_) (fun _ => ?_)
        | refine And.intro ?_ ?_
      all_goals (first | omega | (with_reducible assumption) | (rw [ei]; omega) | (rw [ci]; (simp only [ci, e29, cn] at *; first | done | omega)) | ((simp only [ci, e29, cn] at *; first | done | omega)) | (intro a b q1; rw [am_upN q1]; exact hv0 a b q1) | (rw [show (i + 1).toNat = i.toNat + 1 by omega]; exact ediv) | (rw [show (i + 1).toNat = i.toNat + 1 by omega]; simp only [fp_ew]; first | (rw [if_pos (by (simp only [erem, ce, l0, l1] at *; first | done | omega)), hv4]) | (rw [if_neg (by (simp only [erem, ce, l0, l1] at *; first | done | omega))]; exact hv4) | (exfalso; (simp only [erem, ce, l0, l1] at *; first | done | omega))) | (intro q hq; by_cases d : (q : Int) = i; (rw [am_upS, if_pos ⟨rfl, by rw [ei]; omega⟩, show q = i.toNat by omega, ei]; unfold fp_r3; first | (rw [if_pos (by (simp only [erem, ce, l0, l1] at *; first | done | omega))]; exact hv0 _ _ (by decide)) | (rw [if_neg (by (simp only [erem, ce, l0, l1] at *; first | done | omega)), if_pos (by (simp only [erem, ce, l0, l1] at *; first | done | omega))]; exact hv0 _ _ (by decide)) | (rw [if_neg (by (simp only [erem, ce, l0, l1] at *; first | done | omega)), if_neg (by (simp only [erem, ce, l0, l1] at *; first | done | omega))]; exact hv0 _ _ (by decide)) | (exfalso; (simp only [erem, ce, l0, l1] at *; first | done | omega))); (rw [am_upM (by rw [ei]; omega)]; exact hv5 q (by omega))) | (rw [hv4, iE]) | decide | assumption | (trace_state; fail))
  have lp7' : ∀ (y w i : Int) (o5 : Option am_V) (μ : am_N) , (∀ a b, a ≠ 33 → μ a b = ν a b) → 0 ≤ i → i ≤ ν 29 0 → y = ((fp_q3 c.toNat i.toNat : Nat) : Int) → w = fp_ew c.toNat i.toNat → (∀ q : Nat, (q : Int) < i → μ 33 q = fp_r3 (ν 30 q) (ν 31 q) (ν 32 q) (fp_ej c.toNat q)) → am_AW l 0 (fun _ => 0) 29 Q 7 [some (.inr (.inr 29)), some (.inl c), some (.inl y), some (.inl w), some (.inl i), o5] [] μ := fun y w i o5 μ hv0 hv1 hv2 hv3 hv4 hv5 => lp7 ((ν 29 0 - i) + 1).toNat y w i o5 μ hv0 hv1 hv2 hv3 hv4 hv5 (by omega)
  refine am_go (ct := fun pc => Nat.beq pc 7) am_oX2_deal 300 ?_
  conv => whnf
  repeat' first
    | (refine (?_ : am_wp _ _ _ _ _ _ _ _ _ _ _ _); conv => whnf)
    | (refine (?_ : am_sw _ _ _ _); conv => whnf)
    | refine And.intro trivial ?_
    | exact trivial
    | ((with_reducible refine (?_ : am_AW _ _ _ _ _ 7 _ _ _)); refine lp7' _ _ _ _ _ ?_ ?_ ?_ ?_ ?_ ?_)
    | refine And.intro (fun h => absurd h (by decide)) (fun _ => ?_)
    | refine And.intro (fun _ => ?_) (fun h => absurd (by decide) h)
    | refine And.intro (fun _ => ?_) (fun _ => ?_)
    | refine And.intro ?_ ?_
  all_goals (first | omega | (with_reducible assumption) | rfl | (intros; rfl) | (intros; omega) | (rw [show (0 : Int).toNat = 0 from rfl, fp_q3_0]; omega) | (trace_state; fail))
