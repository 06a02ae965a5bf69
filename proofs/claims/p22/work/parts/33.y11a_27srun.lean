theorem s_set {l : Launch} {ν : am_N} {Q : Option am_V → am_N → Prop} (w v : Int) (cw : am_c w = w) (cv : am_c v = v) (k1 : (0 ≤ w ∧ w ≤ 3) → fp_sb w v → Q (some (.inl (ν 1 (fp_sl w)))) (am_up (am_up ν 1 (fp_sl w) v) 62 3 0)) (k0 : ¬((0 ≤ w ∧ w ≤ 3) ∧ fp_sb w v) → ∀ (r : Int) (μ' : am_N), (∀ a b, a ≠ 78 → μ' a b = ν a b) → Q (some (.inl r)) μ') : am_Does l 66 [.inr (.inr 0), .inl w, .inl v] ν Q := by
  by_cases h : 0 ≤ w ∧ w ≤ 3
  · rcases (show w = 0 ∨ w = 1 ∨ w = 2 ∨ w = 3 by omega) with e | e | e | e
    · exact s_set_0 w v cw cv e k1 k0
    · exact s_set_1 w v cw cv e k1 k0
    · exact s_set_2 w v cw cv e k1 k0
    · exact s_set_3 w v cw cv e k1 k0
  · exact s_set_9 w v cw cv h k1 k0
theorem s_run {l : Launch} {ν : am_N} {Q : Option am_V → am_N → Prop} (hw : fp_fw 999 (fv ν 1)) (h34 : sx_3 ν 34) (h62 : 0 ≤ ν 62 3 ∧ ν 62 3 ≤ 6) (k1 : 1 ≤ ν 1 4 → ν 1 1 < 999 → ∀ μ' : am_N, (∀ a b, a ≠ 6 → a ≠ 7 → ¬(a = 1 ∧ b = 1) → ¬(62 ≤ a ∧ a ≤ 77) → a ≠ 33 → a ≠ 34 → ¬(a = 29 ∧ b = 0) → μ' a b = ν a b) → fv μ' 1 = fp_rn (fv ν 1) → sx_3 μ' 34 → μ' 29 0 = ν 1 4 → μ' 62 3 = (if ν 62 3 < 6 then ν 62 3 + 1 else 6) → (∀ r : Nat, r < 4 → μ' (64 + (μ' 62 3 - 1).toNat) r = ν 6 r ∧ μ' (71 + (μ' 62 3 - 1).toNat) r = ν 7 r) → μ' 77 (μ' 62 3 - 1).toNat = ν 1 1 → (∀ j : Nat, (j : Int) + 1 < μ' 62 3 → (∀ r : Nat, r < 4 → μ' (64 + (μ' 62 3 - 2 - j).toNat) r = ν (64 + (ν 62 3 - 1 - j).toNat) r ∧ μ' (71 + (μ' 62 3 - 2 - j).toNat) r = ν (71 + (ν 62 3 - 1 - j).toNat) r) ∧ μ' 77 (μ' 62 3 - 2 - j).toNat = ν 77 (ν 62 3 - 1 - j).toNat) → Q (some (.inl (fp_f (fv ν 1)))) μ') (k0 : ∀ (r : Int) (μ' : am_N), ((ν 1 4 = 0 ∧ r = -3) ∨ (1 ≤ ν 1 4 ∧ ν 1 1 = 999 ∧ r = -6)) → (∀ a b, a ≠ 78 → μ' a b = ν a b) → Q (some (.inl r)) μ') : am_Does l 67 [.inr (.inr 0)] ν Q := by
  refine am_Does_of (Nat.le_of_ble_eq_true rfl) (Nat.le_of_ble_eq_true rfl) (Nat.le_of_ble_eq_true rfl) ?_
  have l0 : am_c 0 = 0 := rfl
  have l1 : am_c 1 = 1 := rfl
  have l2 : am_c 2 = 2 := rfl
  have l3 : am_c 3 = 3 := rfl
  have l4 : am_c 4 = 4 := rfl
  have l5 : am_c 5 = 5 := rfl
  have l7 : am_c 7 = 7 := rfl
  have l9 : am_c 9 = 9 := rfl
  have l10 : am_c 10 = 10 := rfl
  have l20 : am_c 20 = 20 := rfl
  have l96 : am_c 96 = 96 := rfl
  have l99 : am_c 99 = 99 := rfl
  have l200 : am_c 200 = 200 := rfl
  have l255 : am_c 255 = 255 := rfl
  have l999 : am_c 999 = 999 := rfl
  obtain ⟨hf, -, -, -, -, hweek, -⟩ := fw_C hw (by decide)
  have f0 := hf.1.1
  have f1 := hf.1.2
  have c4 : am_c (ν 1 4) = ν 1 4 := am_cR (by omega) (by omega)
  have c1w : am_c (ν 1 1) = ν 1 1 := am_cR (by omega) (by omega)
  refine am_go (ct := fun _ => false) am_oX6_run 300 ?_
  conv => whnf
  repeat' first
    | (refine (?_ : am_wp _ _ _ _ _ _ _ _ _ _ _ _); conv => whnf)
    | (refine (?_ : am_sw _ _ _ _); conv => whnf)
    | refine And.intro trivial ?_
    | exact trivial
    | ((with_reducible refine (?_ : am_Does _ 113 _ _ _)); refine x_refuse _ ?_ (fun μr fr => ?_))
    | refine k0 _ _ ?_ fr
    | ((with_reducible refine (?_ : am_Does _ 46 _ _ _)); (refine x_keep h62.1 h62.2 (fun μ1 g0 g1 g2 g3 g4 => ?_); have e1 : fv μ1 1 = fv ν 1 := fp_ct_e (fun b _ => g0 1 b (by omega)) (fun a b q1 q2 _ => g0 (1 + a) b (by omega))))
    | (rw [e1]; exact hw)
    | ((with_reducible refine (?_ : am_Does _ 34 _ _ _)); refine x_goOn_29_1 999 ?_ (by decide) ?_ ?_ (fun μ2 u0 u1 u2 u3 u4 u5 => ?_))
    | (rw [e1]; refine k1 ?_ ?_ _ ?_ ?_ u2 ?_ ?_ ?_ ?_ ?_)
    | refine And.intro (fun h => absurd h (by decide)) (fun _ => ?_)
    | refine And.intro (fun _ => ?_) (fun h => absurd (by decide) h)
    | refine And.intro (fun _ => ?_) (fun _ => ?_)
    | refine And.intro ?_ ?_
  all_goals (first | decide | omega | exact Or.inl ⟨by simp only [c4, c1w] at *; omega, rfl⟩ | exact Or.inr ⟨by simp only [c4, c1w] at *; omega, by simp only [c4, c1w] at *; omega, rfl⟩ | (simp only [c4, c1w] at *; omega) | (rw [g0 1 4 (by omega)]; simp only [c4] at *; omega) | (intro x hx; rw [g0 34 x (by omega)]; exact h34 x hx) | (intro a b q1 q2 q3 q4 q5 q6 q7; rw [u0 a b q1 q2 q3 q5 q6 q7]; exact g0 a b q4) | (rw [u1, e1]) | (rw [u3]; exact g0 1 4 (by omega)) | (rw [u0 62 3 (by first | decide | omega | exact fun z => absurd z.1 (by decide)) (by first | decide | omega | exact fun z => absurd z.1 (by decide)) (by first | decide | omega | exact fun z => absurd z.1 (by decide)) (by first | decide | omega | exact fun z => absurd z.1 (by decide)) (by first | decide | omega | exact fun z => absurd z.1 (by decide)) (by first | decide | omega | exact fun z => absurd z.1 (by decide))]; exact g1) | (rw [u0 62 3 (by first | decide | omega | exact fun z => absurd z.1 (by decide)) (by first | decide | omega | exact fun z => absurd z.1 (by decide)) (by first | decide | omega | exact fun z => absurd z.1 (by decide)) (by first | decide | omega | exact fun z => absurd z.1 (by decide)) (by first | decide | omega | exact fun z => absurd z.1 (by decide)) (by first | decide | omega | exact fun z => absurd z.1 (by decide))]; intro r hr; rw [u0 _ _ (by omega) (by omega) (by omega) (by omega) (by omega) (by omega), u0 _ _ (by omega) (by omega) (by omega) (by omega) (by omega) (by omega)]; exact g2 r hr) | (rw [u0 62 3 (by first | decide | omega | exact fun z => absurd z.1 (by decide)) (by first | decide | omega | exact fun z => absurd z.1 (by decide)) (by first | decide | omega | exact fun z => absurd z.1 (by decide)) (by first | decide | omega | exact fun z => absurd z.1 (by decide)) (by first | decide | omega | exact fun z => absurd z.1 (by decide)) (by first | decide | omega | exact fun z => absurd z.1 (by decide)), u0 77 _ (by first | decide | omega | exact fun z => absurd z.1 (by decide)) (by first | decide | omega | exact fun z => absurd z.1 (by decide)) (by first | decide | omega | exact fun z => absurd z.1 (by decide)) (by first | decide | omega | exact fun z => absurd z.1 (by decide)) (by first | decide | omega | exact fun z => absurd z.1 (by decide)) (by first | decide | omega | exact fun z => absurd z.1 (by decide))]; exact g3) | (rw [u0 62 3 (by first | decide | omega | exact fun z => absurd z.1 (by decide)) (by first | decide | omega | exact fun z => absurd z.1 (by decide)) (by first | decide | omega | exact fun z => absurd z.1 (by decide)) (by first | decide | omega | exact fun z => absurd z.1 (by decide)) (by first | decide | omega | exact fun z => absurd z.1 (by decide)) (by first | decide | omega | exact fun z => absurd z.1 (by decide))]; intro j hj; obtain ⟨w1, w2⟩ := g4 j hj; refine ⟨fun r hr => ?_, ?_⟩; (rw [u0 _ _ (by omega) (by omega) (by omega) (by omega) (by omega) (by omega), u0 _ _ (by omega) (by omega) (by omega) (by omega) (by omega) (by omega)]; exact w1 r hr); (rw [u0 _ _ (by omega) (by omega) (by omega) (by omega) (by omega) (by omega)]; exact w2)) | (trace_state; fail))
