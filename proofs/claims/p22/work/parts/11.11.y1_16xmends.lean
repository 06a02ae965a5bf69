theorem x_mends {l : Launch} {ν : am_N} {Q : Option am_V → am_N → Prop} (F G : Int) (hF : ν 100 0 = F) (hG : ν 100 (ν 83 14 - 1).toNat = G) (hF0 : 0 ≤ F) (hF1 : F < ν 83 14) (hG0 : 0 ≤ G) (hG1 : G < ν 83 14) (hn : ν 83 14 ≤ 4) (hr : 0 ≤ ν 83 12 ∧ ν 83 12 ≤ 4) (hy : 1 ≤ ν 83 13 ∧ ν 83 13 ≤ 9) (hs : ∀ b : Nat, b < 4 → 0 ≤ ν 89 b ∧ ν 89 b ≤ 99) (k : ∀ μ' : am_N, (∀ a b, a ≠ 89 → a ≠ 90 → ¬(a = 83 ∧ b = 11) → μ' a b = ν a b) → μ' 89 = am_mn (ν 83 12) (ν 83 13) (ν 83 14) F G (ν 89) → (∀ b : Nat, μ' 90 b = if (b : Int) = F then ν 90 b + 1 else ν 90 b) → μ' 83 11 = ν 83 11 + 1 → Q none μ') : am_Does l 171 [.inr (.inr 83)] ν Q := by
  refine am_Does_of (Nat.le_of_ble_eq_true rfl) (Nat.le_of_ble_eq_true rfl) (Nat.le_of_ble_eq_true rfl) ?_
  have cF : am_c F = F := am_cR (by omega) (by omega)
  have cG : am_c G = G := am_cR (by omega) (by omega)
  have cr : am_c (ν 83 12) = ν 83 12 := am_cR (by omega) (by omega)
  have c0 : am_c 0 = 0 := rfl
  have c1 : am_c 1 = 1 := rfl
  have c2 : am_c 2 = 2 := rfl
  have c3 : am_c 3 = 3 := rfl
  have c4 : am_c 4 = 4 := rfl
  have cn : am_c (ν 83 14) = ν 83 14 := am_cR (by omega) (by omega)
  have cn1 : am_c (ν 83 14 - 1) = ν 83 14 - 1 := am_cR (by omega) (by omega)
  have b1 := am_m1_b (rule := ν 83 12) (yard := ν 83 13) (f := F) hs
  have b2 := am_m2_b (rule := ν 83 12) (yard := ν 83 13) (g := G) b1
  have f1 := hs F.toNat (by omega)
  have lp101 : ∀ (m : Nat) (i : Int) (μ : am_N) , (∀ a b, a ≠ 89 → μ a b = ν a b) → 0 ≤ i → i ≤ ν 83 14 → μ 89 = am_m3 (ν 83 12) i F (am_m2 (ν 83 12) (ν 83 13) G (am_m1 (ν 83 12) (ν 83 13) F (ν 89))) → ν 83 14 - i < (m : Int) → am_AW l 0 (fun _ => 0) 171 Q 101 [some (.inr (.inr 83)), some (.inl F), some (.inl G), some (.inl i)] [] μ := by
    intro m
    induction m with
    | zero =>
      intro i μ hv0 hv1 hv2 hv3 hm
      exfalso
      omega
    | succ m ih =>
      intro i μ hv0 hv1 hv2 hv3 hm
      have e2 : μ 83 12 = ν 83 12 := hv0 83 12 (by decide)
      have e3 : μ 83 13 = ν 83 13 := hv0 83 13 (by decide)
      have e4 : μ 83 14 = ν 83 14 := hv0 83 14 (by decide)
      have ci : am_c i = i := am_cR (by omega) (by omega)
      have b3 := am_m3_b (rule := ν 83 12) (i := i) (f := F) b2
      have fi := fun q : i < 4 => b3 i.toNat (by omega)
      refine am_go (ct := fun pc => Nat.beq pc 101 || Nat.beq pc 99 || Nat.beq pc 63 || Nat.beq pc 19) am_oX7_mends 300 ?_
      conv => whnf
      repeat' first
        | (refine (?_ : am_wp _ _ _ _ _ _ _ _ _ _ _ _); conv => whnf)
        | (refine (?_ : am_sw _ _ _ _); conv => whnf)
        | refine And.intro trivial ?_
        | exact trivial
        | ((with_reducible refine (?_ : am_Does _ 170 _ _ _)); refine x_held _ ?_ ?_ ?_)
        | refine k _ ?_ ?_ ?_ ?_
        | ((with_reducible refine (?_ : am_AW _ _ _ _ _ 101 _ _ _)); refine ih _ _ ?_ ?_ ?_ ?_ ?_)
        | refine And.intro (fun h => absurd h (by decide)) (fun _ => ?_)
        | refine And.intro (fun _ => ?_) (fun h => absurd (by decide) h)
        | refine And.intro (fun _ => ?_) (fun _ => ?_)
        | refine And.intro ?_ ?_
      all_goals (first | decide | omega | (simp only [e2, e3, e4, ci, cn, cF, cr, c4] at *; omega) | (rw [hv3, ci]; have z := fi (by simp only [e2, e3, e4, ci, cn, cF, cr, c4] at *; omega); omega) | (intro a b h; rw [am_upN h]; exact hv0 a b h) | (intro a b h1 h2 h3; rw [am_uE h3, am_upN h2]; exact hv0 a b h1) | (rw [am_upN (by decide), am_upN (by decide)]) | (funext b; rw [am_upN (by decide), am_upN (by decide), hv3]; unfold am_mn; first | (rw [am_m3_n (by simp only [e2, e3, e4, ci, cn, cF, cr, c4] at *; omega), am_m3_n (by simp only [e2, e3, e4, ci, cn, cF, cr, c4] at *; omega)]) | (rw [show i = ν 83 14 by simp only [e2, e3, e4, ci, cn, cF, cr, c4] at *; omega])) | (intro b; rw [am_upN (by decide), cF]; by_cases d : (b : Int) = F; (rw [am_upS, if_pos ⟨rfl, by omega⟩, if_pos d, hv0 _ _ (by decide), show F.toNat = b by omega]); (rw [am_upM (by omega), if_neg d]; exact hv0 _ _ (by decide))) | (rw [am_upS, if_pos ⟨rfl, rfl⟩, am_upN (by decide)]; rw [hv0 _ _ (by decide)]) | (rw [hv3]; exact am_m3_f (by simp only [e2, e3, e4, ci, cn, cF, cr, c4] at *; omega)) | (rw [am_pt_up, hv3, ci]; exact am_m3_s (by simp only [e2, e3, e4, ci, cn, cF, cr, c4] at *; omega) hv1 (by simp only [e2, e3, e4, ci, cn, cF, cr, c4] at *; omega) rfl rfl) | (trace_state; fail))
  have lp101' : ∀ (i : Int) (μ : am_N) , (∀ a b, a ≠ 89 → μ a b = ν a b) → 0 ≤ i → i ≤ ν 83 14 → μ 89 = am_m3 (ν 83 12) i F (am_m2 (ν 83 12) (ν 83 13) G (am_m1 (ν 83 12) (ν 83 13) F (ν 89))) → am_AW l 0 (fun _ => 0) 171 Q 101 [some (.inr (.inr 83)), some (.inl F), some (.inl G), some (.inl i)] [] μ := fun i μ hv0 hv1 hv2 hv3 => lp101 ((ν 83 14 - i) + 1).toNat i μ hv0 hv1 hv2 hv3 (by omega)
  have lp99 : ∀ (o3 : Option am_V) (μ : am_N), (∀ a b, a ≠ 89 → μ a b = ν a b) → μ 89 = am_m2 (ν 83 12) (ν 83 13) G (am_m1 (ν 83 12) (ν 83 13) F (ν 89)) → am_AW l 0 (fun _ => 0) 171 Q 99 [some (.inr (.inr 83)), some (.inl F), some (.inl G), o3] [] μ := by
    intro o3 μ hv0 hv1
    refine am_go (ct := fun pc => Nat.beq pc 101 || Nat.beq pc 99 || Nat.beq pc 63 || Nat.beq pc 19) am_oX7_mends 300 ?_
    conv => whnf
    repeat' first
      | (refine (?_ : am_wp _ _ _ _ _ _ _ _ _ _ _ _); conv => whnf)
      | (refine (?_ : am_sw _ _ _ _); conv => whnf)
      | refine And.intro trivial ?_
      | exact trivial
      | ((with_reducible refine (?_ : am_AW _ _ _ _ _ 101 _ _ _)); refine lp101' _ _ ?_ ?_ ?_ ?_)
      | refine And.intro (fun h => absurd h (by decide)) (fun _ => ?_)
      | refine And.intro (fun _ => ?_) (fun h => absurd (by decide) h)
      | refine And.intro (fun _ => ?_) (fun _ => ?_)
      | refine And.intro ?_ ?_
    all_goals (first | decide | omega | exact hv0 | (rw [hv1, am_m3_0]) | (trace_state; fail))
  have lp63 : ∀  (μ : am_N), (∀ a b, a ≠ 89 → μ a b = ν a b) → μ 89 = am_m1 (ν 83 12) (ν 83 13) F (ν 89) → am_AW l 0 (fun _ => 0) 171 Q 63 [some (.inr (.inr 83)), some (.inl F), some (.inl G), none] [] μ := by
    intro  μ hv0 hv1
    have e2 : μ 83 12 = ν 83 12 := hv0 83 12 (by decide)
    have e3 : μ 83 13 = ν 83 13 := hv0 83 13 (by decide)
    have e4 : μ 83 14 = ν 83 14 := hv0 83 14 (by decide)
    have g1 := b1 G.toNat (by omega)
    have y3 : μ 83 13 ≤ 9 ∧ 1 ≤ μ 83 13 := by rw [e3]; omega
    refine am_go (ct := fun pc => Nat.beq pc 101 || Nat.beq pc 99 || Nat.beq pc 63 || Nat.beq pc 19) am_oX7_mends 300 ?_
    conv => whnf
    repeat' first
      | (refine (?_ : am_wp _ _ _ _ _ _ _ _ _ _ _ _); conv => whnf)
      | (refine (?_ : am_sw _ _ _ _); conv => whnf)
      | refine And.intro trivial ?_
      | exact trivial
      | ((with_reducible refine (?_ : am_Does _ 170 _ _ _)); refine x_held _ ?_ ?_ ?_)
      | ((with_reducible refine (?_ : am_AW _ _ _ _ _ 99 _ _ _)); refine lp99 _ _ ?_ ?_)
      | ((with_reducible refine (?_ : am_AW _ _ _ _ _ 101 _ _ _)); refine lp101' _ _ ?_ ?_ ?_ ?_)
      | refine And.intro (fun h => absurd h (by decide)) (fun _ => ?_)
      | refine And.intro (fun _ => ?_) (fun h => absurd (by decide) h)
      | refine And.intro (fun _ => ?_) (fun _ => ?_)
      | refine And.intro ?_ ?_
    all_goals (first | decide | omega | exact hv0 | (simp only [e2, cr, c2, c3] at *; omega) | (rw [cG, hv1]; omega) | (intro a b h; rw [am_upN h]; exact hv0 a b h) | (rw [am_pt_up, hv1, cG]; unfold am_m2; rw [if_pos (by simp only [e2, cr, c2, c3] at *; omega), e3]) | (rw [hv1]; unfold am_m2; rw [if_neg (by simp only [e2, cr, c2, c3] at *; omega)]) | (trace_state; fail))
  have lp19 : ∀ (F2 G2 : Int), F2 = F → G2 = G → am_AW l 0 (fun _ => 0) 171 Q 19 [some (.inr (.inr 83)), some (.inl F2), some (.inl G2), none] [] ν := by
    intro F2 G2  hv0 hv1
    subst hv0
    subst hv1
    refine am_go (ct := fun pc => Nat.beq pc 101 || Nat.beq pc 99 || Nat.beq pc 63 || Nat.beq pc 19) am_oX7_mends 300 ?_
    conv => whnf
    repeat' first
      | (refine (?_ : am_wp _ _ _ _ _ _ _ _ _ _ _ _); conv => whnf)
      | (refine (?_ : am_sw _ _ _ _); conv => whnf)
      | refine And.intro trivial ?_
      | exact trivial
      | ((with_reducible refine (?_ : am_Does _ 170 _ _ _)); refine x_held _ ?_ ?_ ?_)
      | ((with_reducible refine (?_ : am_AW _ _ _ _ _ 63 _ _ _)); refine lp63  _ ?_ ?_)
      | ((with_reducible refine (?_ : am_AW _ _ _ _ _ 99 _ _ _)); refine lp99 _ _ ?_ ?_)
      | ((with_reducible refine (?_ : am_AW _ _ _ _ _ 101 _ _ _)); refine lp101' _ _ ?_ ?_ ?_ ?_)
      | refine And.intro (fun h => absurd h (by decide)) (fun _ => ?_)
      | refine And.intro (fun _ => ?_) (fun h => absurd (by decide) h)
      | refine And.intro (fun _ => ?_) (fun _ => ?_)
      | refine And.intro ?_ ?_
    all_goals (first | decide | omega | (simp only [cr, c1, c3, c4] at *; omega) | (rw [cF]; first | exact Int.le_trans (by decide) (Int.sub_le_sub f1.1 hy.2) | exact Int.le_trans (Int.sub_le_sub f1.2 hy.1) (by decide)) | exact fun _ _ _ => rfl | (intro a b h; exact am_upN h) | (rw [am_pt_up, cF]; unfold am_m1; rw [if_pos (by simp only [cr, c1, c3, c4] at *; omega)]) | (unfold am_m1; rw [if_neg (by simp only [cr, c1, c3, c4] at *; omega)]) | (trace_state; fail))
  refine am_go (ct := fun pc => Nat.beq pc 101 || Nat.beq pc 99 || Nat.beq pc 63 || Nat.beq pc 19) am_oX7_mends 300 ?_
  conv => whnf
  repeat' first
    | (refine (?_ : am_wp _ _ _ _ _ _ _ _ _ _ _ _); conv => whnf)
    | (refine (?_ : am_sw _ _ _ _); conv => whnf)
    | refine And.intro trivial ?_
    | exact trivial
    | ((with_reducible refine (?_ : am_AW _ _ _ _ _ 19 _ _ _)); refine lp19 _ _  ?_ ?_)
    | ((with_reducible refine (?_ : am_AW _ _ _ _ _ 63 _ _ _)); refine lp63  _ ?_ ?_)
    | ((with_reducible refine (?_ : am_AW _ _ _ _ _ 99 _ _ _)); refine lp99 _ _ ?_ ?_)
    | ((with_reducible refine (?_ : am_AW _ _ _ _ _ 101 _ _ _)); refine lp101' _ _ ?_ ?_ ?_ ?_)
    | refine And.intro (fun h => absurd h (by decide)) (fun _ => ?_)
    | refine And.intro (fun _ => ?_) (fun h => absurd (by decide) h)
    | refine And.intro (fun _ => ?_) (fun _ => ?_)
    | refine And.intro ?_ ?_
  all_goals (first | decide | omega | exact hF | (rw [cn1]; exact hG) | (simp only [cn1, c0] at *; omega) | (trace_state; fail))
