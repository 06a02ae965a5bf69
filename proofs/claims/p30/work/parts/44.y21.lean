/-! how uneven a field is -/
theorem x_draw_8 {l : Launch} {ν : am_N} {Q : Option am_V → am_N → Prop} (hf : am_fC ν 8) (hs : ∀ q : Nat, (q : Int) < ν 8 4 → 0 ≤ ν 12 q ∧ ν 12 q ≤ 20) (k : ∀ μ' : am_N, (∀ a b, ¬(30 ≤ a ∧ a ≤ 32) → ¬(a = 29 ∧ b = 0) → μ' a b = ν a b) → μ' 29 0 = ν 8 4 → (∀ q : Nat, (q : Int) < ν 8 4 → μ' 30 q = fp_pt (am_TC ν 8 q) (ν 12 q) 0 ∧ μ' 31 q = am_TC ν 8 q ∧ μ' 32 q = am_TC ν 8 q + ν 12 q) → Q none μ') : am_Does l 21 [.inr (.inr 29), .inr (.inr 8)] ν Q := by
  refine am_Does_of (Nat.le_of_ble_eq_true rfl) (Nat.le_of_ble_eq_true rfl) (Nat.le_of_ble_eq_true rfl) ?_
  have l0 : am_c 0 = 0 := rfl
  have l1 : am_c 1 = 1 := rfl
  have l2 : am_c 2 = 2 := rfl
  have l3 : am_c 3 = 3 := rfl
  have l4 : am_c 4 = 4 := rfl
  have l16 : am_c 16 = 16 := rfl
  have hn := hf.1
  have hq := @am_TC_b ν 8
  have lp10 : ∀ (m : Nat) (i : Int) (μ : am_N) , (∀ a b, ¬(30 ≤ a ∧ a ≤ 32) → ¬(a = 29 ∧ b = 0) → μ a b = ν a b) → μ 29 0 = ν 8 4 → 0 ≤ i → i ≤ ν 8 4 → (∀ q : Nat, (q : Int) < i → μ 30 q = fp_pt (am_TC ν 8 q) (ν 12 q) 0 ∧ μ 31 q = am_TC ν 8 q ∧ μ 32 q = am_TC ν 8 q + ν 12 q) → ν 8 4 - i < (m : Int) → am_AW l 0 (fun _ => 0) 21 Q 10 [some (.inr (.inr 29)), some (.inr (.inr 8)), some (.inl i)] [] μ := by
    intro m
    induction m with
    | zero =>
      intro i μ hv0 hv1 hv2 hv3 hv4 hm
      exfalso
      omega
    | succ m ih =>
      intro i μ hv0 hv1 hv2 hv3 hv4 hm
      have ci : am_c i = i := am_cR (by omega) (by omega)
      have cn : am_c (ν 8 4) = ν 8 4 := am_cR (by omega) (by omega)
      obtain ⟨g1, g2⟩ := am_fC_ch (c := 8) (fun a b q1 q2 => hv0 a b (by omega) (by omega))
      have g3 := g1 hf
      have e4 : μ 8 4 = ν 8 4 := hv0 8 4 (by decide) (by decide)
      have eS : μ 12 i.toNat = ν 12 i.toNat := hv0 12 _ (by omega) (by omega)
      have gT := g2 i.toNat
      have eI : (am_c i).toNat = i.toNat := by rw [ci]
      refine am_go (ct := fun pc => Nat.beq pc 10) am_oX2_draw 300 ?_
      conv => whnf
      repeat' first
        | (refine (?_ : am_wp _ _ _ _ _ _ _ _ _ _ _ _); conv => whnf)
        | (refine (?_ : am_sw _ _ _ _); conv => whnf)
        | refine And.intro trivial ?_
        | exact trivial
        | exact g3
        | ((with_reducible refine (?_ : am_Does _ 8 _ _ _)); refine x_tenths_8 _ ?_ ?_ ?_ ?_)
        | ((with_reducible refine (?_ : am_Does _ 22 _ _ _)); (refine x_put _ _ _ ?_ ?_ ?_ ?_ ?_ ?_ (fun μ2 y1 y2 y3 y4 => ?_)))
        | refine k _ ?_ ?_ ?_
        | ((with_reducible refine (?_ : am_AW _ _ _ _ _ 10 _ _ _)); refine ih _ _ ?_ ?_ ?_ ?_ ?_ ?_)
        | refine And.intro (fun h => absurd h (by decide)) (fun _ => ?_)
        | refine And.intro (fun _ => ?_) (fun h => absurd (by decide) h)
        | refine And.intro (fun _ => ?_) (fun _ => ?_)
        | refine And.intro ?_ ?_
      all_goals (first | decide | assumption | omega | (simp only [hv1, ci, cn, e4] at *; omega) | (have hi : i < ν 8 4 := (by simp only [hv1, ci, cn, e4] at *; omega); have z1 := @hq i.toNat hf (by omega); have z2 := hs i.toNat (by omega); simp only [eI, eS, gT]; omega) | (intro a b h1 h2; rw [y1 a b (by omega)]; exact hv0 a b h1 h2) | (rw [y1 29 0 (by omega)]; exact hv1) | (intro q hq; by_cases d : (q : Int) = i; (rw [show q = i.toNat by omega, y2, y3, y4]; refine ⟨?_, ?_, ?_⟩ <;> simp only [eI, eS, gT]); (rw [y1 30 q (by omega), y1 31 q (by omega), y1 32 q (by omega)]; exact hv4 q (by omega))) | (intro q hq; exact hv4 q (by simp only [hv1, ci, cn, e4] at *; omega)) | (trace_state; fail))
  have lp10' : ∀ (i : Int) (μ : am_N) , (∀ a b, ¬(30 ≤ a ∧ a ≤ 32) → ¬(a = 29 ∧ b = 0) → μ a b = ν a b) → μ 29 0 = ν 8 4 → 0 ≤ i → i ≤ ν 8 4 → (∀ q : Nat, (q : Int) < i → μ 30 q = fp_pt (am_TC ν 8 q) (ν 12 q) 0 ∧ μ 31 q = am_TC ν 8 q ∧ μ 32 q = am_TC ν 8 q + ν 12 q) → am_AW l 0 (fun _ => 0) 21 Q 10 [some (.inr (.inr 29)), some (.inr (.inr 8)), some (.inl i)] [] μ := fun i μ hv0 hv1 hv2 hv3 hv4 => lp10 ((ν 8 4 - i) + 1).toNat i μ hv0 hv1 hv2 hv3 hv4 (by omega)
  refine am_go (ct := fun pc => Nat.beq pc 10) am_oX2_draw 300 ?_
  conv => whnf
  repeat' first
    | (refine (?_ : am_wp _ _ _ _ _ _ _ _ _ _ _ _); conv => whnf)
    | (refine (?_ : am_sw _ _ _ _); conv => whnf)
    | refine And.intro trivial ?_
    | exact trivial
    | ((with_reducible refine (?_ : am_AW _ _ _ _ _ 10 _ _ _)); refine lp10' _ _ ?_ ?_ ?_ ?_ ?_)
    | refine And.intro (fun h => absurd h (by decide)) (fun _ => ?_)
    | refine And.intro (fun _ => ?_) (fun h => absurd (by decide) h)
    | refine And.intro (fun _ => ?_) (fun _ => ?_)
    | refine And.intro ?_ ?_
  all_goals (first | decide | assumption | omega | rfl | (intro a b h1 h2; rw [am_upS, if_neg h2]) | (exact if_pos ⟨rfl, rfl⟩) | (intros; omega) | (trace_state; fail))
