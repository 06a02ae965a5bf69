/-! the mending -/
def am_hd (v : Int) : Int := if v < 0 then 0 else if 99 < v then 99 else v
theorem am_hd_b (v : Int) : 0 ≤ am_hd v ∧ am_hd v ≤ 99 := by
  unfold am_hd
  split
  · omega
  · split <;> omega
def am_pt (s : Nat → Int) (j : Nat) (v : Int) : Nat → Int := fun b => if b = j then v else s b
def am_m1 (rule yard f : Int) (s : Nat → Int) : Nat → Int := if rule = 1 ∨ rule = 3 ∨ rule = 4 then am_pt s f.toNat (am_hd (s f.toNat - yard)) else s
def am_m2 (rule yard g : Int) (s : Nat → Int) : Nat → Int := if rule = 2 ∨ rule = 3 then am_pt s g.toNat (am_hd (s g.toNat + yard)) else s
def am_m3 (rule i f : Int) (s : Nat → Int) : Nat → Int := fun b => if rule = 4 ∧ (b : Int) < i ∧ (b : Int) ≠ f then am_hd (s b + 1) else s b
def am_mn (rule yard n f g : Int) (s : Nat → Int) : Nat → Int := am_m3 rule n f (am_m2 rule yard g (am_m1 rule yard f s))
theorem am_pt_up {μ : am_N} {k j : Nat} {v : Int} : am_up μ k j v k = am_pt (μ k) j v := by
  funext b
  simp only [am_up, am_pt, true_and]
theorem am_m1_b {rule yard f : Int} {s : Nat → Int} (h : ∀ b : Nat, b < 4 → 0 ≤ s b ∧ s b ≤ 99) : ∀ b : Nat, b < 4 → 0 ≤ am_m1 rule yard f s b ∧ am_m1 rule yard f s b ≤ 99 := fun b hb => by
  unfold am_m1
  split
  · unfold am_pt
    split
    · exact am_hd_b _
    · exact h b hb
  · exact h b hb
theorem am_m2_b {rule yard g : Int} {s : Nat → Int} (h : ∀ b : Nat, b < 4 → 0 ≤ s b ∧ s b ≤ 99) : ∀ b : Nat, b < 4 → 0 ≤ am_m2 rule yard g s b ∧ am_m2 rule yard g s b ≤ 99 := fun b hb => by
  unfold am_m2
  split
  · unfold am_pt
    split
    · exact am_hd_b _
    · exact h b hb
  · exact h b hb
theorem am_m3_b {rule i f : Int} {s : Nat → Int} (h : ∀ b : Nat, b < 4 → 0 ≤ s b ∧ s b ≤ 99) : ∀ b : Nat, b < 4 → 0 ≤ am_m3 rule i f s b ∧ am_m3 rule i f s b ≤ 99 := fun b hb => by
  unfold am_m3
  split
  · exact am_hd_b _
  · exact h b hb
theorem am_m3_0 {rule f : Int} {s : Nat → Int} : am_m3 rule 0 f s = s := by
  funext b
  simp only [am_m3]
  rw [if_neg (by omega)]
theorem am_m3_n {rule i f : Int} {s : Nat → Int} (h : rule ≠ 4) : am_m3 rule i f s = s := by
  funext b
  simp only [am_m3]
  rw [if_neg (fun z => h z.1)]
/-- one step: the one at i is not the first -/
theorem am_m3_s {rule i f v : Int} {j : Nat} {s : Nat → Int} (h : rule = 4) (h0 : 0 ≤ i) (h1 : i ≠ f) (hj : j = i.toNat) (hv : v = am_hd (am_m3 rule i f s i.toNat + 1)) : am_pt (am_m3 rule i f s) j v = am_m3 rule (i + 1) f s := by
  subst hj; subst hv
  funext b
  simp only [am_pt, am_m3]
  by_cases e : b = i.toNat
  · subst e
    rw [if_pos rfl, if_neg (by omega), if_pos (by omega)]
  · rw [if_neg e]
    by_cases e2 : (b : Int) < i ∧ (b : Int) ≠ f
    · rw [if_pos ⟨h, e2⟩, if_pos (by omega)]
    · rw [if_neg (by omega), if_neg (by omega)]
theorem am_m3_f {rule i f : Int} {s : Nat → Int} (h1 : i = f) : am_m3 rule i f s = am_m3 rule (i + 1) f s := by
  funext b
  simp only [am_m3]
  by_cases e2 : rule = 4 ∧ (b : Int) < i ∧ (b : Int) ≠ f
  · rw [if_pos e2, if_pos (by omega)]
  · rw [if_neg e2, if_neg (by omega)]
theorem am_qu {Q : Option am_V → am_N → Prop} {r : Option am_V} {μ : am_N} {k j i : Nat} {v w : Int} (q : Q r (am_up μ k i w)) (h1 : j = i) (h2 : v = w) : Q r (am_up μ k j v) := by subst h1; subst h2; exact q
theorem x_more_1 {l : Launch} {ν : am_N} {Q : Option am_V → am_N → Prop} (i d : Int) (hi0 : 0 ≤ i) (hi1 : i < ν 1 4) (hn : ν 1 4 ≤ 4) (hs0 : 0 ≤ ν 6 i.toNat) (hs1 : ν 6 i.toNat ≤ 99) (d0 : -1000 ≤ d) (d1 : d ≤ 1000) (k : Q none (am_up ν 6 i.toNat (am_hd (ν 6 i.toNat + d)))) : am_Does l 11 [.inr (.inr 1), .inl i, .inl d] ν Q := by
  refine am_Does_of (Nat.le_of_ble_eq_true rfl) (Nat.le_of_ble_eq_true rfl) (Nat.le_of_ble_eq_true rfl) ?_
  have ci : am_c i = i := am_cR (by omega) (by omega)
  have cn : am_c (ν 1 4) = ν 1 4 := am_cR (by omega) (by omega)
  have c99 : am_c 99 = 99 := rfl
  have ei : (am_c i).toNat = i.toNat := by rw [ci]
  have cv : am_c (ν 6 i.toNat + d) = ν 6 i.toNat + d := am_cR (by omega) (by omega)
  refine am_go (ct := fun _ => false) am_oX0_more 300 ?_
  conv => whnf
  repeat' first
    | (refine (?_ : am_wp _ _ _ _ _ _ _ _ _ _ _ _); conv => whnf)
    | (refine (?_ : am_sw _ _ _ _); conv => whnf)
    | refine And.intro trivial ?_
    | exact trivial
    | refine am_qu k ?_ ?_
    | refine And.intro (fun h => absurd h (by decide)) (fun _ => ?_)
    | refine And.intro (fun _ => ?_) (fun h => absurd (by decide) h)
    | refine And.intro (fun _ => ?_) (fun _ => ?_)
    | refine And.intro ?_ ?_
  all_goals (first | decide | assumption | omega | (simp only [ei, ci, cn] at *; omega) | (unfold am_hd; first | (rw [if_pos (by simp only [ci, cv, c99] at *; omega)]) | (rw [if_neg (by simp only [ci, cv, c99] at *; omega), if_pos (by simp only [ci, cv, c99] at *; omega)]) | (rw [if_neg (by simp only [ci, cv, c99] at *; omega), if_neg (by simp only [ci, cv, c99] at *; omega), ei])) | (simp only [ei] at *; (unfold am_hd; first | (rw [if_pos (by simp only [ci, cv, c99] at *; omega)]) | (rw [if_neg (by simp only [ci, cv, c99] at *; omega), if_pos (by simp only [ci, cv, c99] at *; omega)]) | (rw [if_neg (by simp only [ci, cv, c99] at *; omega), if_neg (by simp only [ci, cv, c99] at *; omega), ei]))) | (trace_state; fail))
theorem x_mend_1 {l : Launch} {ν : am_N} {Q : Option am_V → am_N → Prop} (F G : Int) (hF0 : 0 ≤ F) (hF1 : F < ν 1 4) (hG0 : 0 ≤ G) (hG1 : G < ν 1 4) (hn : ν 1 4 ≤ 4) (hr : 0 ≤ ν 1 2 ∧ ν 1 2 ≤ 4) (hy : 1 ≤ ν 1 3 ∧ ν 1 3 ≤ 9) (hs : ∀ b : Nat, b < 4 → 0 ≤ ν 6 b ∧ ν 6 b ≤ 99) (k : ∀ μ' : am_N, (∀ a b, a ≠ 6 → μ' a b = ν a b) → μ' 6 = am_mn (ν 1 2) (ν 1 3) (ν 1 4) F G (ν 6) → Q none μ') : am_Does l 12 [.inr (.inr 1), .inl F, .inl G] ν Q := by
  refine am_Does_of (Nat.le_of_ble_eq_true rfl) (Nat.le_of_ble_eq_true rfl) (Nat.le_of_ble_eq_true rfl) ?_
  have cF : am_c F = F := am_cR (by omega) (by omega)
  have cr : am_c (ν 1 2) = ν 1 2 := am_cR (by omega) (by omega)
  have c1 : am_c 1 = 1 := rfl
  have c2 : am_c 2 = 2 := rfl
  have c3 : am_c 3 = 3 := rfl
  have c4 : am_c 4 = 4 := rfl
  have cn : am_c (ν 1 4) = ν 1 4 := am_cR (by omega) (by omega)
  have b1 := am_m1_b (rule := ν 1 2) (yard := ν 1 3) (f := F) hs
  have b2 := am_m2_b (rule := ν 1 2) (yard := ν 1 3) (g := G) b1
  have f1 := hs F.toNat (by omega)
  have lp61 : ∀ (m : Nat) (i : Int) (μ : am_N) , (∀ a b, a ≠ 6 → μ a b = ν a b) → 0 ≤ i → i ≤ ν 1 4 → μ 6 = am_m3 (ν 1 2) i F (am_m2 (ν 1 2) (ν 1 3) G (am_m1 (ν 1 2) (ν 1 3) F (ν 6))) → ν 1 4 - i < (m : Int) → am_AW l 0 (fun _ => 0) 12 Q 61 [some (.inr (.inr 1)), some (.inl F), some (.inl G), some (.inl i)] [] μ := by
    intro m
    induction m with
    | zero =>
      intro i μ hv0 hv1 hv2 hv3 hm
      exfalso
      omega
    | succ m ih =>
      intro i μ hv0 hv1 hv2 hv3 hm
      have e2 : μ 1 2 = ν 1 2 := hv0 1 2 (by decide)
      have e3 : μ 1 3 = ν 1 3 := hv0 1 3 (by decide)
      have e4 : μ 1 4 = ν 1 4 := hv0 1 4 (by decide)
      have ci : am_c i = i := am_cR (by omega) (by omega)
      have b3 := am_m3_b (rule := ν 1 2) (i := i) (f := F) b2
      have fi := fun q : i < 4 => b3 i.toNat (by omega)
      refine am_go (ct := fun pc => Nat.beq pc 61 || Nat.beq pc 59 || Nat.beq pc 34) am_oX0_mend 300 ?_
      conv => whnf
      repeat' first
        | (refine (?_ : am_wp _ _ _ _ _ _ _ _ _ _ _ _); conv => whnf)
        | (refine (?_ : am_sw _ _ _ _); conv => whnf)
        | refine And.intro trivial ?_
        | exact trivial
        | refine x_more_1 _ _ ?_ ?_ ?_ ?_ ?_ ?_ ?_ ?_
        | refine k _ ?_ ?_
        | refine x_more_1 _ _ ?_ ?_ ?_ ?_ ?_ ?_ ?_ ?_
        | refine ih _ _ ?_ ?_ ?_ ?_ ?_
        | refine And.intro (fun h => absurd h (by decide)) (fun _ => ?_)
        | refine And.intro (fun _ => ?_) (fun h => absurd (by decide) h)
        | refine And.intro (fun _ => ?_) (fun _ => ?_)
        | refine And.intro ?_ ?_
      all_goals (first | decide | assumption | omega | (simp only [e2, e3, e4, hv3, ci, cn, cF, cr, c4] at *; omega) | (rw [hv3]; exact (fi (by simp only [e2, e3, e4, ci, cn, cF, cr, c4] at *; omega)).1) | (rw [hv3]; exact (fi (by simp only [e2, e3, e4, ci, cn, cF, cr, c4] at *; omega)).2) | (intro a b h; rw [am_upN h]; exact hv0 a b h) | (rw [hv3]; unfold am_mn; rw [am_m3_n (by simp only [e2, e3, e4, ci, cn, cF, cr, c4] at *; omega), am_m3_n (by simp only [e2, e3, e4, ci, cn, cF, cr, c4] at *; omega)]) | (rw [hv3]; unfold am_mn; rw [show i = ν 1 4 by simp only [e2, e3, e4, ci, cn, cF, cr, c4] at *; omega]) | (rw [hv3]; exact am_m3_f (by simp only [e2, e3, e4, ci, cn, cF, cr, c4] at *; omega)) | (rw [am_pt_up, hv3]; exact am_m3_s (by simp only [e2, e3, e4, ci, cn, cF, cr, c4] at *; omega) hv1 (by simp only [e2, e3, e4, ci, cn, cF, cr, c4] at *; omega) rfl rfl) | (trace_state; fail))
  have lp61' : ∀ (i : Int) (μ : am_N) , (∀ a b, a ≠ 6 → μ a b = ν a b) → 0 ≤ i → i ≤ ν 1 4 → μ 6 = am_m3 (ν 1 2) i F (am_m2 (ν 1 2) (ν 1 3) G (am_m1 (ν 1 2) (ν 1 3) F (ν 6))) → am_AW l 0 (fun _ => 0) 12 Q 61 [some (.inr (.inr 1)), some (.inl F), some (.inl G), some (.inl i)] [] μ := fun i μ hv0 hv1 hv2 hv3 => lp61 ((ν 1 4 - i) + 1).toNat i μ hv0 hv1 hv2 hv3 (by omega)
  have lp59 : ∀  (μ : am_N), (∀ a b, a ≠ 6 → μ a b = ν a b) → μ 6 = am_m2 (ν 1 2) (ν 1 3) G (am_m1 (ν 1 2) (ν 1 3) F (ν 6)) → am_AW l 0 (fun _ => 0) 12 Q 59 [some (.inr (.inr 1)), some (.inl F), some (.inl G), none] [] μ := by
    intro  μ hv0 hv1
    refine am_go (ct := fun pc => Nat.beq pc 61 || Nat.beq pc 59 || Nat.beq pc 34) am_oX0_mend 300 ?_
    conv => whnf
    repeat' first
      | (refine (?_ : am_wp _ _ _ _ _ _ _ _ _ _ _ _); conv => whnf)
      | (refine (?_ : am_sw _ _ _ _); conv => whnf)
      | refine And.intro trivial ?_
      | exact trivial
      | refine x_more_1 _ _ ?_ ?_ ?_ ?_ ?_ ?_ ?_ ?_
      | refine lp61' _ _ ?_ ?_ ?_ ?_
      | refine And.intro (fun h => absurd h (by decide)) (fun _ => ?_)
      | refine And.intro (fun _ => ?_) (fun h => absurd (by decide) h)
      | refine And.intro (fun _ => ?_) (fun _ => ?_)
      | refine And.intro ?_ ?_
    all_goals (first | decide | assumption | omega | (rw [hv1, am_m3_0]) | (trace_state; fail))
  have lp34 : ∀  (μ : am_N), (∀ a b, a ≠ 6 → μ a b = ν a b) → μ 6 = am_m1 (ν 1 2) (ν 1 3) F (ν 6) → am_AW l 0 (fun _ => 0) 12 Q 34 [some (.inr (.inr 1)), some (.inl F), some (.inl G), none] [] μ := by
    intro  μ hv0 hv1
    have e2 : μ 1 2 = ν 1 2 := hv0 1 2 (by decide)
    have e3 : μ 1 3 = ν 1 3 := hv0 1 3 (by decide)
    have e4 : μ 1 4 = ν 1 4 := hv0 1 4 (by decide)
    have g1 := b1 G.toNat (by omega)
    refine am_go (ct := fun pc => Nat.beq pc 61 || Nat.beq pc 59 || Nat.beq pc 34) am_oX0_mend 300 ?_
    conv => whnf
    repeat' first
      | (refine (?_ : am_wp _ _ _ _ _ _ _ _ _ _ _ _); conv => whnf)
      | (refine (?_ : am_sw _ _ _ _); conv => whnf)
      | refine And.intro trivial ?_
      | exact trivial
      | refine x_more_1 _ _ ?_ ?_ ?_ ?_ ?_ ?_ ?_ ?_
      | refine x_more_1 _ _ ?_ ?_ ?_ ?_ ?_ ?_ ?_ ?_
      | refine lp59  _ ?_ ?_
      | refine lp61' _ _ ?_ ?_ ?_ ?_
      | refine And.intro (fun h => absurd h (by decide)) (fun _ => ?_)
      | refine And.intro (fun _ => ?_) (fun h => absurd (by decide) h)
      | refine And.intro (fun _ => ?_) (fun _ => ?_)
      | refine And.intro ?_ ?_
    all_goals (first | decide | assumption | omega | (simp only [e2, e3, e4, hv1, cr, c2, c3] at *; omega) | (rw [hv1]; first | exact g1.1 | exact g1.2) | (intro a b h; rw [am_upN h]; exact hv0 a b h) | (rw [am_pt_up, hv1]; unfold am_m2; rw [if_pos (by simp only [e2, e3, e4, cr, c2, c3] at *; omega), e3]) | (rw [hv1]; unfold am_m2; rw [if_neg (by simp only [e2, e3, e4, cr, c2, c3] at *; omega)]) | (trace_state; fail))
  refine am_go (ct := fun pc => Nat.beq pc 61 || Nat.beq pc 59 || Nat.beq pc 34) am_oX0_mend 300 ?_
  conv => whnf
  repeat' first
    | (refine (?_ : am_wp _ _ _ _ _ _ _ _ _ _ _ _); conv => whnf)
    | (refine (?_ : am_sw _ _ _ _); conv => whnf)
    | refine And.intro trivial ?_
    | exact trivial
    | refine x_more_1 _ _ ?_ ?_ ?_ ?_ ?_ ?_ ?_ ?_
    | refine lp34  _ ?_ ?_
    | refine lp59  _ ?_ ?_
    | refine lp61' _ _ ?_ ?_ ?_ ?_
    | refine And.intro (fun h => absurd h (by decide)) (fun _ => ?_)
    | refine And.intro (fun _ => ?_) (fun h => absurd (by decide) h)
    | refine And.intro (fun _ => ?_) (fun _ => ?_)
    | refine And.intro ?_ ?_
  all_goals (first | decide | assumption | omega | exact f1.1 | exact f1.2 | (simp only [cr, c1, c3, c4] at *; omega) | (intro a b h; exact am_upN h) | exact fun _ _ _ => rfl | (rw [am_pt_up]; unfold am_m1; rw [if_pos (by simp only [cr, c1, c3, c4] at *; omega)]; rfl) | (unfold am_m1; rw [if_neg (by simp only [cr, c1, c3, c4] at *; omega)]) | (trace_state; fail))
theorem x_more_8 {l : Launch} {ν : am_N} {Q : Option am_V → am_N → Prop} (i d : Int) (hi0 : 0 ≤ i) (hi1 : i < ν 8 4) (hn : ν 8 4 ≤ 4) (hs0 : 0 ≤ ν 13 i.toNat) (hs1 : ν 13 i.toNat ≤ 99) (d0 : -1000 ≤ d) (d1 : d ≤ 1000) (k : Q none (am_up ν 13 i.toNat (am_hd (ν 13 i.toNat + d)))) : am_Does l 11 [.inr (.inr 8), .inl i, .inl d] ν Q := by
  refine am_Does_of (Nat.le_of_ble_eq_true rfl) (Nat.le_of_ble_eq_true rfl) (Nat.le_of_ble_eq_true rfl) ?_
  have ci : am_c i = i := am_cR (by omega) (by omega)
  have cn : am_c (ν 8 4) = ν 8 4 := am_cR (by omega) (by omega)
  have c99 : am_c 99 = 99 := rfl
  have ei : (am_c i).toNat = i.toNat := by rw [ci]
  have cv : am_c (ν 13 i.toNat + d) = ν 13 i.toNat + d := am_cR (by omega) (by omega)
  refine am_go (ct := fun _ => false) am_oX0_more 300 ?_
  conv => whnf
  repeat' first
    | (refine (?_ : am_wp _ _ _ _ _ _ _ _ _ _ _ _); conv => whnf)
    | (refine (?_ : am_sw _ _ _ _); conv => whnf)
    | refine And.intro trivial ?_
    | exact trivial
    | refine am_qu k ?_ ?_
    | refine And.intro (fun h => absurd h (by decide)) (fun _ => ?_)
    | refine And.intro (fun _ => ?_) (fun h => absurd (by decide) h)
    | refine And.intro (fun _ => ?_) (fun _ => ?_)
    | refine And.intro ?_ ?_
  all_goals (first | decide | assumption | omega | (simp only [ei, ci, cn] at *; omega) | (unfold am_hd; first | (rw [if_pos (by simp only [ci, cv, c99] at *; omega)]) | (rw [if_neg (by simp only [ci, cv, c99] at *; omega), if_pos (by simp only [ci, cv, c99] at *; omega)]) | (rw [if_neg (by simp only [ci, cv, c99] at *; omega), if_neg (by simp only [ci, cv, c99] at *; omega), ei])) | (simp only [ei] at *; (unfold am_hd; first | (rw [if_pos (by simp only [ci, cv, c99] at *; omega)]) | (rw [if_neg (by simp only [ci, cv, c99] at *; omega), if_pos (by simp only [ci, cv, c99] at *; omega)]) | (rw [if_neg (by simp only [ci, cv, c99] at *; omega), if_neg (by simp only [ci, cv, c99] at *; omega), ei]))) | (trace_state; fail))
theorem x_mend_8 {l : Launch} {ν : am_N} {Q : Option am_V → am_N → Prop} (F G : Int) (hF0 : 0 ≤ F) (hF1 : F < ν 8 4) (hG0 : 0 ≤ G) (hG1 : G < ν 8 4) (hn : ν 8 4 ≤ 4) (hr : 0 ≤ ν 8 2 ∧ ν 8 2 ≤ 4) (hy : 1 ≤ ν 8 3 ∧ ν 8 3 ≤ 9) (hs : ∀ b : Nat, b < 4 → 0 ≤ ν 13 b ∧ ν 13 b ≤ 99) (k : ∀ μ' : am_N, (∀ a b, a ≠ 13 → μ' a b = ν a b) → μ' 13 = am_mn (ν 8 2) (ν 8 3) (ν 8 4) F G (ν 13) → Q none μ') : am_Does l 12 [.inr (.inr 8), .inl F, .inl G] ν Q := by
  refine am_Does_of (Nat.le_of_ble_eq_true rfl) (Nat.le_of_ble_eq_true rfl) (Nat.le_of_ble_eq_true rfl) ?_
  have cF : am_c F = F := am_cR (by omega) (by omega)
  have cr : am_c (ν 8 2) = ν 8 2 := am_cR (by omega) (by omega)
  have c1 : am_c 1 = 1 := rfl
  have c2 : am_c 2 = 2 := rfl
  have c3 : am_c 3 = 3 := rfl
  have c4 : am_c 4 = 4 := rfl
  have cn : am_c (ν 8 4) = ν 8 4 := am_cR (by omega) (by omega)
  have b1 := am_m1_b (rule := ν 8 2) (yard := ν 8 3) (f := F) hs
  have b2 := am_m2_b (rule := ν 8 2) (yard := ν 8 3) (g := G) b1
  have f1 := hs F.toNat (by omega)
  have lp61 : ∀ (m : Nat) (i : Int) (μ : am_N) , (∀ a b, a ≠ 13 → μ a b = ν a b) → 0 ≤ i → i ≤ ν 8 4 → μ 13 = am_m3 (ν 8 2) i F (am_m2 (ν 8 2) (ν 8 3) G (am_m1 (ν 8 2) (ν 8 3) F (ν 13))) → ν 8 4 - i < (m : Int) → am_AW l 0 (fun _ => 0) 12 Q 61 [some (.inr (.inr 8)), some (.inl F), some (.inl G), some (.inl i)] [] μ := by
    intro m
    induction m with
    | zero =>
      intro i μ hv0 hv1 hv2 hv3 hm
      exfalso
      omega
    | succ m ih =>
      intro i μ hv0 hv1 hv2 hv3 hm
      have e2 : μ 8 2 = ν 8 2 := hv0 8 2 (by decide)
      have e3 : μ 8 3 = ν 8 3 := hv0 8 3 (by decide)
      have e4 : μ 8 4 = ν 8 4 := hv0 8 4 (by decide)
      have ci : am_c i = i := am_cR (by omega) (by omega)
      have b3 := am_m3_b (rule := ν 8 2) (i := i) (f := F) b2
      have fi := fun q : i < 4 => b3 i.toNat (by omega)
      refine am_go (ct := fun pc => Nat.beq pc 61 || Nat.beq pc 59 || Nat.beq pc 34) am_oX0_mend 300 ?_
      conv => whnf
      repeat' first
        | (refine (?_ : am_wp _ _ _ _ _ _ _ _ _ _ _ _); conv => whnf)
        | (refine (?_ : am_sw _ _ _ _); conv => whnf)
        | refine And.intro trivial ?_
        | exact trivial
        | refine x_more_8 _ _ ?_ ?_ ?_ ?_ ?_ ?_ ?_ ?_
        | refine k _ ?_ ?_
        | refine x_more_8 _ _ ?_ ?_ ?_ ?_ ?_ ?_ ?_ ?_
        | refine ih _ _ ?_ ?_ ?_ ?_ ?_
        | refine And.intro (fun h => absurd h (by decide)) (fun _ => ?_)
        | refine And.intro (fun _ => ?_) (fun h => absurd (by decide) h)
        | refine And.intro (fun _ => ?_) (fun _ => ?_)
        | refine And.intro ?_ ?_
      all_goals (first | decide | assumption | omega | (simp only [e2, e3, e4, hv3, ci, cn, cF, cr, c4] at *; omega) | (rw [hv3]; exact (fi (by simp only [e2, e3, e4, ci, cn, cF, cr, c4] at *; omega)).1) | (rw [hv3]; exact (fi (by simp only [e2, e3, e4, ci, cn, cF, cr, c4] at *; omega)).2) | (intro a b h; rw [am_upN h]; exact hv0 a b h) | (rw [hv3]; unfold am_mn; rw [am_m3_n (by simp only [e2, e3, e4, ci, cn, cF, cr, c4] at *; omega), am_m3_n (by simp only [e2, e3, e4, ci, cn, cF, cr, c4] at *; omega)]) | (rw [hv3]; unfold am_mn; rw [show i = ν 8 4 by simp only [e2, e3, e4, ci, cn, cF, cr, c4] at *; omega]) | (rw [hv3]; exact am_m3_f (by simp only [e2, e3, e4, ci, cn, cF, cr, c4] at *; omega)) | (rw [am_pt_up, hv3]; exact am_m3_s (by simp only [e2, e3, e4, ci, cn, cF, cr, c4] at *; omega) hv1 (by simp only [e2, e3, e4, ci, cn, cF, cr, c4] at *; omega) rfl rfl) | (trace_state; fail))
  have lp61' : ∀ (i : Int) (μ : am_N) , (∀ a b, a ≠ 13 → μ a b = ν a b) → 0 ≤ i → i ≤ ν 8 4 → μ 13 = am_m3 (ν 8 2) i F (am_m2 (ν 8 2) (ν 8 3) G (am_m1 (ν 8 2) (ν 8 3) F (ν 13))) → am_AW l 0 (fun _ => 0) 12 Q 61 [some (.inr (.inr 8)), some (.inl F), some (.inl G), some (.inl i)] [] μ := fun i μ hv0 hv1 hv2 hv3 => lp61 ((ν 8 4 - i) + 1).toNat i μ hv0 hv1 hv2 hv3 (by omega)
  have lp59 : ∀  (μ : am_N), (∀ a b, a ≠ 13 → μ a b = ν a b) → μ 13 = am_m2 (ν 8 2) (ν 8 3) G (am_m1 (ν 8 2) (ν 8 3) F (ν 13)) → am_AW l 0 (fun _ => 0) 12 Q 59 [some (.inr (.inr 8)), some (.inl F), some (.inl G), none] [] μ := by
    intro  μ hv0 hv1
    refine am_go (ct := fun pc => Nat.beq pc 61 || Nat.beq pc 59 || Nat.beq pc 34) am_oX0_mend 300 ?_
    conv => whnf
    repeat' first
      | (refine (?_ : am_wp _ _ _ _ _ _ _ _ _ _ _ _); conv => whnf)
      | (refine (?_ : am_sw _ _ _ _); conv => whnf)
      | refine And.intro trivial ?_
      | exact trivial
      | refine x_more_8 _ _ ?_ ?_ ?_ ?_ ?_ ?_ ?_ ?_
      | refine lp61' _ _ ?_ ?_ ?_ ?_
      | refine And.intro (fun h => absurd h (by decide)) (fun _ => ?_)
      | refine And.intro (fun _ => ?_) (fun h => absurd (by decide) h)
      | refine And.intro (fun _ => ?_) (fun _ => ?_)
      | refine And.intro ?_ ?_
    all_goals (first | decide | assumption | omega | (rw [hv1, am_m3_0]) | (trace_state; fail))
  have lp34 : ∀  (μ : am_N), (∀ a b, a ≠ 13 → μ a b = ν a b) → μ 13 = am_m1 (ν 8 2) (ν 8 3) F (ν 13) → am_AW l 0 (fun _ => 0) 12 Q 34 [some (.inr (.inr 8)), some (.inl F), some (.inl G), none] [] μ := by
    intro  μ hv0 hv1
    have e2 : μ 8 2 = ν 8 2 := hv0 8 2 (by decide)
    have e3 : μ 8 3 = ν 8 3 := hv0 8 3 (by decide)
    have e4 : μ 8 4 = ν 8 4 := hv0 8 4 (by decide)
    have g1 := b1 G.toNat (by omega)
    refine am_go (ct := fun pc => Nat.beq pc 61 || Nat.beq pc 59 || Nat.beq pc 34) am_oX0_mend 300 ?_
    conv => whnf
    repeat' first
      | (refine (?_ : am_wp _ _ _ _ _ _ _ _ _ _ _ _); conv => whnf)
      | (refine (?_ : am_sw _ _ _ _); conv => whnf)
      | refine And.intro trivial ?_
      | exact trivial
      | refine x_more_8 _ _ ?_ ?_ ?_ ?_ ?_ ?_ ?_ ?_
      | refine x_more_8 _ _ ?_ ?_ ?_ ?_ ?_ ?_ ?_ ?_
      | refine lp59  _ ?_ ?_
      | refine lp61' _ _ ?_ ?_ ?_ ?_
      | refine And.intro (fun h => absurd h (by decide)) (fun _ => ?_)
      | refine And.intro (fun _ => ?_) (fun h => absurd (by decide) h)
      | refine And.intro (fun _ => ?_) (fun _ => ?_)
      | refine And.intro ?_ ?_
    all_goals (first | decide | assumption | omega | (simp only [e2, e3, e4, hv1, cr, c2, c3] at *; omega) | (rw [hv1]; first | exact g1.1 | exact g1.2) | (intro a b h; rw [am_upN h]; exact hv0 a b h) | (rw [am_pt_up, hv1]; unfold am_m2; rw [if_pos (by simp only [e2, e3, e4, cr, c2, c3] at *; omega), e3]) | (rw [hv1]; unfold am_m2; rw [if_neg (by simp only [e2, e3, e4, cr, c2, c3] at *; omega)]) | (trace_state; fail))
  refine am_go (ct := fun pc => Nat.beq pc 61 || Nat.beq pc 59 || Nat.beq pc 34) am_oX0_mend 300 ?_
  conv => whnf
  repeat' first
    | (refine (?_ : am_wp _ _ _ _ _ _ _ _ _ _ _ _); conv => whnf)
    | (refine (?_ : am_sw _ _ _ _); conv => whnf)
    | refine And.intro trivial ?_
    | exact trivial
    | refine x_more_8 _ _ ?_ ?_ ?_ ?_ ?_ ?_ ?_ ?_
    | refine lp34  _ ?_ ?_
    | refine lp59  _ ?_ ?_
    | refine lp61' _ _ ?_ ?_ ?_ ?_
    | refine And.intro (fun h => absurd h (by decide)) (fun _ => ?_)
    | refine And.intro (fun _ => ?_) (fun h => absurd (by decide) h)
    | refine And.intro (fun _ => ?_) (fun _ => ?_)
    | refine And.intro ?_ ?_
  all_goals (first | decide | assumption | omega | exact f1.1 | exact f1.2 | (simp only [cr, c1, c3, c4] at *; omega) | (intro a b h; exact am_upN h) | exact fun _ _ _ => rfl | (rw [am_pt_up]; unfold am_m1; rw [if_pos (by simp only [cr, c1, c3, c4] at *; omega)]; rfl) | (unfold am_m1; rw [if_neg (by simp only [cr, c1, c3, c4] at *; omega)]) | (trace_state; fail))
