theorem n_run {l : Launch} {ν : am_N} {Q : Option am_V → am_N → Prop} (hw : fp_fw 999 (mv ν)) (h100 : sx_3 ν 100) (h33 : 0 ≤ ν 83 33 ∧ ν 83 33 ≤ 6) (k1 : 1 ≤ ν 83 14 → ν 83 11 < 999 → ∀ μ' : am_N, (∀ a b, a ≠ 89 → a ≠ 90 → ¬(a = 83 ∧ b = 11) → a ≠ 99 → a ≠ 100 → a ≠ 101 → a ≠ 102 → a ≠ 103 → ¬(a = 83 ∧ b = 33) → μ' a b = ν a b) → mv μ' = fp_rn (mv ν) → sx_3 μ' 100 → μ' 83 33 = (if ν 83 33 < 6 then ν 83 33 + 1 else 6) → (∀ r : Nat, r < 4 → μ' 101 r = ν 89 r ∧ μ' 102 r = ν 90 r) → μ' 103 0 = ν 83 11 → (∀ b : Nat, 4 ≤ b → b < 24 → μ' 101 b = ν 101 (b - 4) ∧ μ' 102 b = ν 102 (b - 4)) → (∀ b : Nat, 1 ≤ b → b < 6 → μ' 103 b = ν 103 (b - 1)) → Q (some (.inl (fp_f (mv ν)))) μ') (k0 : ∀ (r : Int) (μ' : am_N), ((ν 83 14 = 0 ∧ r = -3) ∨ (1 ≤ ν 83 14 ∧ ν 83 11 = 999 ∧ r = -6)) → (∀ a b, a ≠ 84 → μ' a b = ν a b) → Q (some (.inl r)) μ') : am_Does l 177 [.inr (.inr 83)] ν Q := by
  refine am_Does_of (Nat.le_of_ble_eq_true rfl) (Nat.le_of_ble_eq_true rfl) (Nat.le_of_ble_eq_true rfl) ?_
  have l0 : am_c 0 = 0 := rfl
  have l1 : am_c 1 = 1 := rfl
  have l2 : am_c 2 = 2 := rfl
  have l3 : am_c 3 = 3 := rfl
  have l4 : am_c 4 = 4 := rfl
  have l5 : am_c 5 = 5 := rfl
  have l7 : am_c 7 = 7 := rfl
  have l9 : am_c 9 = 9 := rfl
  have l10 : am_c 10 = 10 := rfl
  have l20 : am_c 20 = 20 := rfl
  have l96 : am_c 96 = 96 := rfl
  have l99 : am_c 99 = 99 := rfl
  have l200 : am_c 200 = 200 := rfl
  have l255 : am_c 255 = 255 := rfl
  have l999 : am_c 999 = 999 := rfl
  have m1 : am_c (-1) = -1 := rfl
  have m2 : am_c (-2) = -2 := rfl
  have m3 : am_c (-3) = -3 := rfl
  have m4 : am_c (-4) = -4 := rfl
  have m6 : am_c (-6) = -6 := rfl
  obtain ⟨hf, -, -, -, -, hweek, -⟩ := fw_M hw (by decide)
  have f0 := hf.1.1
  have f1 := hf.1.2
  have c14 : am_c (ν 83 14) = ν 83 14 := am_cR (by omega) (by omega)
  have c11 : am_c (ν 83 11) = ν 83 11 := am_cR (by omega) (by omega)
  refine am_go (ct := fun _ => false) am_oX7_run 300 ?_
  conv => whnf
  repeat' first
    | (refine (?_ : am_wp _ _ _ _ _ _ _ _ _ _ _ _); conv => whnf)
    | (refine (?_ : am_sw _ _ _ _); conv => whnf)
    | refine And.intro trivial ?_
    | exact trivial
    | ((with_reducible refine (?_ : am_Does _ 140 _ _ _)); refine x_no _ ?_ (fun μr fr => ?_))
    | refine k0 _ _ ?_ fr
    | refine And.intro (fun h => absurd h (by omega)) (fun _ => ?_)
    | refine And.intro (fun _ => ?_) (fun h => absurd h (by omega))
    | ((with_reducible refine (?_ : am_Does _ 179 _ _ _)); (refine x_keepsRun h33.1 h33.2 (fun μ1 g0 g1 g2 g3 g4 g5 => ?_); have e1 : mv μ1 = mv ν := mv_keep (fun a b q => g0 a b (by omega) (by omega) (by omega) (by omega))))
    | (rw [e1]; exact hw)
    | ((with_reducible refine (?_ : am_Does _ 172 _ _ _)); refine x_runs 999 ?_ (by decide) ?_ ?_ (fun μ2 u0 u1 u2 u3 u4 => ?_))
    | (rw [e1]; refine k1 ?_ ?_ _ ?_ ?_ u2 ?_ ?_ ?_ ?_ ?_)
    | refine And.intro (fun h => absurd h (by decide)) (fun _ => ?_)
    | refine And.intro (fun _ => ?_) (fun h => absurd (by decide) h)
    | refine And.intro (fun _ => ?_) (fun _ => ?_)
    | refine And.intro ?_ ?_
  all_goals (first | decide | omega | exact Or.inl ⟨by simp only [c14, c11] at *; omega, rfl⟩ | exact Or.inr ⟨by simp only [c14, c11] at *; omega, by simp only [c14, c11] at *; omega, rfl⟩ | (simp only [c14, c11] at *; omega) | (rw [g0 83 14 (by omega) (by omega) (by omega) (by omega)]; simp only [c14] at *; omega) | (intro x hx; rw [g0 100 x (by omega) (by omega) (by omega) (by omega)]; exact h100 x hx) | (intro a b q1 q2 q3 q4 q5 q6 q7 q8 q9; rw [u0 a b q1 q2 q3 q4 q5]; exact g0 a b q6 q7 q8 q9) | (rw [u1, e1]) | (rw [u0 83 33 (by first | decide | omega | exact fun z => absurd z.1 (by decide)) (by first | decide | omega | exact fun z => absurd z.1 (by decide)) (by first | decide | omega | exact fun z => absurd z.1 (by decide)) (by first | decide | omega | exact fun z => absurd z.1 (by decide)) (by first | decide | omega | exact fun z => absurd z.1 (by decide))]; exact g1) | (intro r hr; rw [u0 101 r (by first | decide | omega | exact fun z => absurd z.1 (by decide)) (by first | decide | omega | exact fun z => absurd z.1 (by decide)) (by first | decide | omega | exact fun z => absurd z.1 (by decide)) (by first | decide | omega | exact fun z => absurd z.1 (by decide)) (by first | decide | omega | exact fun z => absurd z.1 (by decide)), u0 102 r (by first | decide | omega | exact fun z => absurd z.1 (by decide)) (by first | decide | omega | exact fun z => absurd z.1 (by decide)) (by first | decide | omega | exact fun z => absurd z.1 (by decide)) (by first | decide | omega | exact fun z => absurd z.1 (by decide)) (by first | decide | omega | exact fun z => absurd z.1 (by decide))]; exact g2 r hr) | (rw [u0 103 0 (by first | decide | omega | exact fun z => absurd z.1 (by decide)) (by first | decide | omega | exact fun z => absurd z.1 (by decide)) (by first | decide | omega | exact fun z => absurd z.1 (by decide)) (by first | decide | omega | exact fun z => absurd z.1 (by decide)) (by first | decide | omega | exact fun z => absurd z.1 (by decide))]; exact g3) | (intro b q1 q2; rw [u0 101 b (by first | decide | omega | exact fun z => absurd z.1 (by decide)) (by first | decide | omega | exact fun z => absurd z.1 (by decide)) (by first | decide | omega | exact fun z => absurd z.1 (by decide)) (by first | decide | omega | exact fun z => absurd z.1 (by decide)) (by first | decide | omega | exact fun z => absurd z.1 (by decide)), u0 102 b (by first | decide | omega | exact fun z => absurd z.1 (by decide)) (by first | decide | omega | exact fun z => absurd z.1 (by decide)) (by first | decide | omega | exact fun z => absurd z.1 (by decide)) (by first | decide | omega | exact fun z => absurd z.1 (by decide)) (by first | decide | omega | exact fun z => absurd z.1 (by decide))]; exact g4 b q1 q2) | (intro b q1 q2; rw [u0 103 b (by first | decide | omega | exact fun z => absurd z.1 (by decide)) (by first | decide | omega | exact fun z => absurd z.1 (by decide)) (by first | decide | omega | exact fun z => absurd z.1 (by decide)) (by first | decide | omega | exact fun z => absurd z.1 (by decide)) (by first | decide | omega | exact fun z => absurd z.1 (by decide))]; exact g5 b q1 q2) | (trace_state; fail))
