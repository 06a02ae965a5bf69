theorem n_same {l : Launch} {ν : am_N} {Q : Option am_V → am_N → Prop} (i s j : Int) (ci : am_c i = i) (cs : am_c s = s) (cj : am_c j = j) (hw : fp_fw 999 (mv ν)) (k : ∀ μ' : am_N, (∀ a b, a ≠ 84 → μ' a b = ν a b) → Q (some (.inl (fp_sr (mv ν) i s j))) μ') : am_Does l 208 [.inr (.inr 83), .inl i, .inl s, .inl j] ν Q := by
  refine am_Does_of (Nat.le_of_ble_eq_true rfl) (Nat.le_of_ble_eq_true rfl) (Nat.le_of_ble_eq_true rfl) ?_
  have l0 : am_c 0 = 0 := rfl
  have l1 : am_c 1 = 1 := rfl
  have l2 : am_c 2 = 2 := rfl
  have l20 : am_c 20 = 20 := rfl
  have l99 : am_c 99 = 99 := rfl
  have l1000000000 : am_c 1000000000 = 1000000000 := rfl
  have m1' : am_c (-1) = -1 := rfl
  have m4' : am_c (-4) = -4 := rfl
  have m6' : am_c (-6) = -6 := rfl
  obtain ⟨hf, -, -, -, hway, -, -⟩ := fw_M hw (by decide)
  have f0 := hf.1.1
  have f1 := hf.1.2
  have e4 : mv ν 0 4 = ν 83 14 := rfl
  have kk := fun (x : Int) (μ' : am_N) (h : ∀ a b, a ≠ 84 → μ' a b = ν a b) (e : x = fp_sr (mv ν) i s j) => am_qe (k μ' h) e
  have lp37 : ∀ (m : Nat) (y t : Int) , 0 ≤ t → t ≤ 100 → fp_sm (mv ν) j.toNat (fp_wo (mv ν) i.toNat s) (100 - t).toNat t = fp_sm (mv ν) j.toNat (fp_wo (mv ν) i.toNat s) 100 0 → (0 ≤ i ∧ i < ν 83 14) → (0 ≤ j ∧ j < ν 83 14) → i ≠ j → (0 ≤ s ∧ s ≤ 99) → 100 - t < (m : Int) → am_AW l 0 (fun _ => 0) 208 Q 37 [some (.inr (.inr 83)), some (.inl i), some (.inl s), some (.inl j), some (.inl y), some (.inl t)] [] ν := by
    intro m
    induction m with
    | zero =>
      intro y t  hv0 hv1 hv2 hv3 hv4 hv5 hv6 hm
      exfalso
      omega
    | succ m ih =>
      intro y t  hv0 hv1 hv2 hv3 hv4 hv5 hv6 hm
      have ct : am_c t = t := am_cR (by omega) (by omega)
      refine am_go (ct := fun pc => Nat.beq pc 37) am_oX7_same 300 ?_
      conv => whnf
      repeat' first
        | (refine (?_ : am_wp _ _ _ _ _ _ _ _ _ _ _ _); conv => whnf)
        | (refine (?_ : am_sw _ _ _ _); conv => whnf)
        | refine And.intro trivial ?_
        | exact trivial
        | ((with_reducible refine (?_ : am_Does _ 206 _ _ _)); refine n_worthOf _ _ hw ?_ ?_ ?_ ?_ (fun v ev cv => ?_))
        | refine kk _ _ (fun _ _ _ => rfl) ?_
        | ((with_reducible refine (?_ : am_Does _ 147 _ _ _)); refine x_areTwoT _ _ ci cj f0 f1 (fun y0 y1 y2 => ?_) (fun y => ?_))
        | ((with_reducible refine (?_ : am_Does _ 144 _ _ _)); refine x_bound _ _ _ ?_ ?_ ?_ (fun _ => ?_) (fun _ => ?_) (fun _ _ => ?_))
        | ((with_reducible refine (?_ : am_Does _ 140 _ _ _)); refine x_no _ ?_ (fun μr fr => ?_))
        | refine And.intro (fun h => absurd h (by omega)) (fun _ => ?_)
        | refine And.intro (fun _ => ?_) (fun h => absurd h (by omega))
        | refine kk _ _ fr ?_
        | ((with_reducible refine (?_ : am_AW _ _ _ _ _ 37 _ _ _)); refine ih _ _  ?_ ?_ ?_ ?_ ?_ ?_ ?_ ?_)
        | refine And.intro (fun h => absurd h (by decide)) (fun _ => ?_)
        | refine And.intro (fun _ => ?_) (fun h => absurd (by decide) h)
        | refine And.intro (fun _ => ?_) (fun _ => ?_)
        | refine And.intro ?_ ?_
      all_goals (first | decide | assumption | omega | (unfold fp_sr; rw [e4, if_neg (by omega), if_neg (by omega), if_neg (by omega), ← hv2]; first | exact (fp_sm_y (by omega) (by omega)).symm | exact (fp_sm_z (by omega)).symm) | (rw [← hv2]; exact (fp_sm_s (by omega) (by omega)).symm) | (trace_state; fail))
  have lp37' : ∀ (y t : Int) , 0 ≤ t → t ≤ 100 → fp_sm (mv ν) j.toNat (fp_wo (mv ν) i.toNat s) (100 - t).toNat t = fp_sm (mv ν) j.toNat (fp_wo (mv ν) i.toNat s) 100 0 → (0 ≤ i ∧ i < ν 83 14) → (0 ≤ j ∧ j < ν 83 14) → i ≠ j → (0 ≤ s ∧ s ≤ 99) → am_AW l 0 (fun _ => 0) 208 Q 37 [some (.inr (.inr 83)), some (.inl i), some (.inl s), some (.inl j), some (.inl y), some (.inl t)] [] ν := fun y t  hv0 hv1 hv2 hv3 hv4 hv5 hv6 => lp37 ((100 - t) + 1).toNat y t  hv0 hv1 hv2 hv3 hv4 hv5 hv6 (by omega)
  refine am_go (ct := fun pc => Nat.beq pc 37) am_oX7_same 300 ?_
  conv => whnf
  repeat' first
    | (refine (?_ : am_wp _ _ _ _ _ _ _ _ _ _ _ _); conv => whnf)
    | (refine (?_ : am_sw _ _ _ _); conv => whnf)
    | refine And.intro trivial ?_
    | exact trivial
    | ((with_reducible refine (?_ : am_Does _ 147 _ _ _)); refine x_areTwoT _ _ ci cj f0 f1 (fun y0 y1 y2 => ?_) (fun y => ?_))
    | ((with_reducible refine (?_ : am_Does _ 144 _ _ _)); refine x_bound _ _ _ ?_ ?_ ?_ (fun _ => ?_) (fun _ => ?_) (fun _ _ => ?_))
    | ((with_reducible refine (?_ : am_Does _ 140 _ _ _)); refine x_no _ ?_ (fun μr fr => ?_))
    | refine And.intro (fun h => absurd h (by omega)) (fun _ => ?_)
    | refine And.intro (fun _ => ?_) (fun h => absurd h (by omega))
    | refine kk _ _ fr ?_
    | ((with_reducible refine (?_ : am_AW _ _ _ _ _ 37 _ _ _)); refine lp37' _ _  ?_ ?_ ?_ ?_ ?_ ?_ ?_)
    | refine And.intro (fun h => absurd h (by decide)) (fun _ => ?_)
    | refine And.intro (fun _ => ?_) (fun h => absurd (by decide) h)
    | refine And.intro (fun _ => ?_) (fun _ => ?_)
    | refine And.intro ?_ ?_
  all_goals (first | decide | assumption | omega | rfl | (unfold fp_sr; rw [e4, if_pos (by omega)]; done) | (unfold fp_sr; rw [e4, if_neg (by omega), if_pos (by omega)]; done) | (unfold fp_sr; rw [e4, if_neg (by omega), if_neg (by omega), if_pos (by omega)]; done) | (trace_state; fail))
