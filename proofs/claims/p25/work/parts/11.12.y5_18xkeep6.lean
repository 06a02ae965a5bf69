theorem x_keep_6 {l : Launch} {ν : am_N} {Q : Option am_V → am_N → Prop} (hB : ν 62 3 = 6) (k : ∀ μ' : am_N, (∀ a b, ¬(62 ≤ a ∧ a ≤ 77) → μ' a b = ν a b) → μ' 62 3 = (if ν 62 3 < 6 then ν 62 3 + 1 else 6) → (∀ r : Nat, r < 4 → μ' (64 + (μ' 62 3 - 1).toNat) r = ν 6 r ∧ μ' (71 + (μ' 62 3 - 1).toNat) r = ν 7 r) → μ' 77 (μ' 62 3 - 1).toNat = ν 1 1 → (∀ j : Nat, (j : Int) + 1 < μ' 62 3 → (∀ r : Nat, r < 4 → μ' (64 + (μ' 62 3 - 2 - j).toNat) r = ν (64 + (ν 62 3 - 1 - j).toNat) r ∧ μ' (71 + (μ' 62 3 - 2 - j).toNat) r = ν (71 + (ν 62 3 - 1 - j).toNat) r) ∧ μ' 77 (μ' 62 3 - 2 - j).toNat = ν 77 (ν 62 3 - 1 - j).toNat) → Q none μ') : am_Does l 46 [.inr (.inr 62), .inr (.inr 1)] ν Q := by
  refine am_Does_of (Nat.le_of_ble_eq_true rfl) (Nat.le_of_ble_eq_true rfl) (Nat.le_of_ble_eq_true rfl) ?_
  have cB : am_c (ν 62 3) = am_c 6 := by rw [hB]
  refine am_go (ct := fun pc => Nat.beq pc 13) am_oX4_keep 60 ?_
  conv => whnf
  repeat' first
    | (refine (?_ : am_wp _ _ _ _ _ _ _ _ _ _ _ _); conv => whnf)
    | (refine (?_ : am_sw _ _ _ _); conv => whnf)
    | refine And.intro trivial ?_
    | exact trivial
    | ((with_reducible refine (?_ : am_Does _ 47 _ _ _)); refine x_lose (fun μ0 f0 n0 r0 => ?_))
    | refine And.intro (fun z => absurd cB z) (fun _ => ?_)
    | refine x_kp_5 ?_ (fun μ1 f1 n1 r1 w1 => k μ1 ?_ ?_ ?_ ?_ ?_)
    | refine And.intro (fun h => absurd h (by decide)) (fun _ => ?_)
    | refine And.intro (fun _ => ?_) (fun h => absurd (by decide) h)
    | refine And.intro (fun _ => ?_) (fun _ => ?_)
    | refine And.intro ?_ ?_
  all_goals (first | exact n0 | (intro a b h; rw [f1 a b (by omega) (by omega) (by omega) (by omega)]; exact f0 a b (by omega)) | (rw [n1, hB]; rfl) | (rw [n1]; intro r hr; rw [← f0 6 r (by decide), ← f0 7 r (by decide)]; exact r1 r hr) | (rw [n1, ← f0 1 1 (by decide)]; exact w1) | (rw [n1, hB]; intro j hj; obtain ⟨q1, q2⟩ := r0 (4 - j) (by omega); rw [show ((6 : Int) - 2 - j).toNat = 4 - j by omega, show ((6 : Int) - 1 - j).toNat = 4 - j + 1 by omega]; refine ⟨fun r hr => ?_, ?_⟩; (rw [f1 _ _ (by omega) (by omega) (by omega) (by omega), f1 _ _ (by omega) (by omega) (by omega) (by omega), show 64 + (4 - j + 1) = 65 + (4 - j) by omega, show 71 + (4 - j + 1) = 72 + (4 - j) by omega]; exact q1 r hr); (rw [f1 _ _ (by omega) (by omega) (by omega) (by omega)]; exact q2)) | (trace_state; fail))
