theorem s_same {l : Launch} {ν : am_N} {Q : Option am_V → am_N → Prop} (i s j : Int) (ci : am_c i = i) (cs : am_c s = s) (cj : am_c j = j) (hw : fp_fw 999 (fv ν 1)) (k : ∀ μ' : am_N, (∀ a b, a ≠ 78 → μ' a b = ν a b) → Q (some (.inl (fp_sr (fv ν 1) i s j))) μ') : am_Does l 81 [.inr (.inr 0), .inl i, .inl s, .inl j] ν Q := by
  refine am_Does_of (Nat.le_of_ble_eq_true rfl) (Nat.le_of_ble_eq_true rfl) (Nat.le_of_ble_eq_true rfl) ?_
  have l0 : am_c 0 = 0 := rfl
  have l1 : am_c 1 = 1 := rfl
  have l2 : am_c 2 = 2 := rfl
  have l20 : am_c 20 = 20 := rfl
  have l99 : am_c 99 = 99 := rfl
  have l1000000000 : am_c 1000000000 = 1000000000 := rfl
  obtain ⟨hf, -, -, -, hway, -, -⟩ := fw_C hw (by decide)
  have f0 := hf.1.1
  have f1 := hf.1.2
  have e4 : fv ν 1 0 4 = ν 1 4 := fv_0 (by decide)
  have kk := fun (x : Int) (μ' : am_N) (h : ∀ a b, a ≠ 78 → μ' a b = ν a b) (e : x = fp_sr (fv ν 1) i s j) => am_qe (k μ' h) e
  have lp50 : ∀ (m : Nat) (w t : Int) , w = fp_wo (fv ν 1) i.toNat s → am_c w = w → 0 ≤ t → t ≤ 100 → fp_sm (fv ν 1) j.toNat w (100 - t).toNat t = fp_sm (fv ν 1) j.toNat w 100 0 → (0 ≤ i ∧ i < ν 1 4) → (0 ≤ j ∧ j < ν 1 4) → i ≠ j → (0 ≤ s ∧ s ≤ 99) → 100 - t < (m : Int) → am_AW l 0 (fun _ => 0) 81 Q 50 [some (.inr (.inr 0)), some (.inl i), some (.inl s), some (.inl j), some (.inl w), some (.inl t)] [] ν := by
    intro m
    induction m with
    | zero =>
      intro w t  hv0 hv1 hv2 hv3 hv4 hv5 hv6 hv7 hv8 hm
      exfalso
      omega
    | succ m ih =>
      intro w t  hv0 hv1 hv2 hv3 hv4 hv5 hv6 hv7 hv8 hm
      have ct : am_c t = t := am_cR (by omega) (by omega)
      refine am_go (ct := fun pc => Nat.beq pc 50) am_oX6_same 300 ?_
      conv => whnf
      repeat' first
        | (refine (?_ : am_wp _ _ _ _ _ _ _ _ _ _ _ _); conv => whnf)
        | (refine (?_ : am_sw _ _ _ _); conv => whnf)
        | refine And.intro trivial ?_
        | exact trivial
        | ((with_reducible refine (?_ : am_Does _ 128 _ _ _)); first | refine s_gained _ _ hw ?_ ?_ ?_ ?_ (fun v ev cv => ?_) | refine s_gained _ _ hw ?_ ?_ ?_ ?_ (fun v ev cv => ?_))
        | refine kk _ _ (fun _ _ _ => rfl) ?_
        | ((with_reducible refine (?_ : am_Does _ 117 _ _ _)); refine x_notTwo _ _ ci cj f0 f1 (fun y => ?_) (fun y0 y1 y2 => ?_))
        | ((with_reducible refine (?_ : am_Does _ 113 _ _ _)); refine x_refuse _ ?_ (fun μr fr => ?_))
        | refine kk _ _ fr ?_
        | ((with_reducible refine (?_ : am_AW _ _ _ _ _ 50 _ _ _)); refine ih _ _  ?_ ?_ ?_ ?_ ?_ ?_ ?_ ?_ ?_ ?_)
        | refine And.intro (fun h => absurd h (by decide)) (fun _ => ?_)
        | refine And.intro (fun _ => ?_) (fun h => absurd (by decide) h)
        | refine And.intro (fun _ => ?_) (fun _ => ?_)
        | refine And.intro ?_ ?_
      all_goals (first | decide | assumption | omega | (unfold fp_sr; rw [e4, if_neg (by omega), if_neg (by omega), if_neg (by omega), ← hv0, ← hv4]; first | exact (fp_sm_y (by omega) (by omega)).symm | exact (fp_sm_z (by omega)).symm) | (rw [← hv4]; exact (fp_sm_s (by omega) (by omega)).symm) | (trace_state; fail))
  have lp50' : ∀ (w t : Int) , w = fp_wo (fv ν 1) i.toNat s → am_c w = w → 0 ≤ t → t ≤ 100 → fp_sm (fv ν 1) j.toNat w (100 - t).toNat t = fp_sm (fv ν 1) j.toNat w 100 0 → (0 ≤ i ∧ i < ν 1 4) → (0 ≤ j ∧ j < ν 1 4) → i ≠ j → (0 ≤ s ∧ s ≤ 99) → am_AW l 0 (fun _ => 0) 81 Q 50 [some (.inr (.inr 0)), some (.inl i), some (.inl s), some (.inl j), some (.inl w), some (.inl t)] [] ν := fun w t  hv0 hv1 hv2 hv3 hv4 hv5 hv6 hv7 hv8 => lp50 ((100 - t) + 1).toNat w t  hv0 hv1 hv2 hv3 hv4 hv5 hv6 hv7 hv8 (by omega)
  refine am_go (ct := fun pc => Nat.beq pc 50) am_oX6_same 300 ?_
  conv => whnf
  repeat' first
    | (refine (?_ : am_wp _ _ _ _ _ _ _ _ _ _ _ _); conv => whnf)
    | (refine (?_ : am_sw _ _ _ _); conv => whnf)
    | refine And.intro trivial ?_
    | exact trivial
    | ((with_reducible refine (?_ : am_Does _ 117 _ _ _)); refine x_notTwo _ _ ci cj f0 f1 (fun y => ?_) (fun y0 y1 y2 => ?_))
    | ((with_reducible refine (?_ : am_Does _ 113 _ _ _)); refine x_refuse _ ?_ (fun μr fr => ?_))
    | ((with_reducible refine (?_ : am_Does _ 128 _ _ _)); refine s_gained _ _ hw ?_ ?_ ?_ ?_ (fun v ev cv => ?_))
    | refine kk _ _ fr ?_
    | ((with_reducible refine (?_ : am_AW _ _ _ _ _ 50 _ _ _)); refine lp50' _ _  ?_ ?_ ?_ ?_ ?_ ?_ ?_ ?_ ?_)
    | refine And.intro (fun h => absurd h (by decide)) (fun _ => ?_)
    | refine And.intro (fun _ => ?_) (fun h => absurd (by decide) h)
    | refine And.intro (fun _ => ?_) (fun _ => ?_)
    | refine And.intro ?_ ?_
  all_goals (first | decide | assumption | omega | rfl | (unfold fp_sr; rw [e4, if_pos (by omega)]; done) | (unfold fp_sr; rw [e4, if_neg (by omega), if_pos (by omega)]; done) | (unfold fp_sr; rw [e4, if_neg (by omega), if_neg (by omega), if_pos (by omega)]; done) | (trace_state; fail))
