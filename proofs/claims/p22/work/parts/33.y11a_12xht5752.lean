theorem x_ht_57_52 {l : Launch} {ν : am_N} {Q : Option am_V → am_N → Prop} (h0 : 0 ≤ ν 53 1 ∧ ν 53 1 ≤ 4) (h1 : 0 ≤ ν 55 1 ∧ ν 55 1 ≤ 4) (k : ∀ μ' : am_N, (∀ a b, ¬(a = 58 ∧ b = 1) → a ≠ 59 → ¬(a = 60 ∧ b = 1) → a ≠ 61 → μ' a b = ν a b) → μ' 58 1 = ν 53 1 → (∀ i : Nat, (i : Int) < ν 53 1 → μ' 59 i = ν 54 i) → μ' 60 1 = ν 55 1 → (∀ i : Nat, (i : Int) < ν 55 1 → μ' 61 i = ν 56 i) → Q none μ') : am_Does l 18 [.inr (.inr 57), .inr (.inr 52)] ν Q := by
  refine am_Does_of (Nat.le_of_ble_eq_true rfl) (Nat.le_of_ble_eq_true rfl) (Nat.le_of_ble_eq_true rfl) ?_
  refine am_go (ct := fun _ => false) am_oX1_take 300 ?_
  conv => whnf
  repeat' first
    | (refine (?_ : am_wp _ _ _ _ _ _ _ _ _ _ _ _); conv => whnf)
    | (refine (?_ : am_sw _ _ _ _); conv => whnf)
    | refine And.intro trivial ?_
    | exact trivial
    | ((with_reducible refine (?_ : am_Does _ 45 _ _ _)); first | ((with_reducible refine (?_ : am_Does _ 45 (Sum.inr (Sum.inr 58) :: Sum.inr (Sum.inr 53) :: _) _ _)); refine x_rt_58_53 h0.1 h0.2 (fun μ1 f1 n1 r1 => ?_)) | ((with_reducible refine (?_ : am_Does _ 45 (Sum.inr (Sum.inr 60) :: Sum.inr (Sum.inr 55) :: _) _ _)); refine x_rt_60_55 ?_ ?_ (fun μ2 f2 n2 r2 => ?_)) | refine x_rt_58_53 h0.1 h0.2 (fun μ1 f1 n1 r1 => ?_) | refine x_rt_60_55 ?_ ?_ (fun μ2 f2 n2 r2 => ?_))
    | refine k _ ?_ ?_ ?_ ?_ ?_
    | refine And.intro (fun h => absurd h (by decide)) (fun _ => ?_)
    | refine And.intro (fun _ => ?_) (fun h => absurd (by decide) h)
    | refine And.intro (fun _ => ?_) (fun _ => ?_)
    | refine And.intro ?_ ?_
  all_goals (first | decide | (rw [f1 55 1 (by first | decide | omega | exact fun z => absurd z.1 (by decide)) (by first | decide | omega | exact fun z => absurd z.1 (by decide))]; first | exact h1.1 | exact h1.2) | (intro a b q1 q2 q3 q4; rw [f2 a b q3 q4]; exact f1 a b q1 q2) | (rw [f2 _ _ (by first | decide | omega | exact fun z => absurd z.1 (by decide)) (by first | decide | omega | exact fun z => absurd z.1 (by decide))]; exact n1) | (intro i hi; rw [f2 _ _ (by first | decide | omega | exact fun z => absurd z.1 (by decide)) (by first | decide | omega | exact fun z => absurd z.1 (by decide))]; exact r1 i hi) | (rw [n2]; exact f1 _ _ (by first | decide | omega | exact fun z => absurd z.1 (by decide)) (by first | decide | omega | exact fun z => absurd z.1 (by decide))) | (intro i hi; rw [r2 i (by rw [f1 55 1 (by first | decide | omega | exact fun z => absurd z.1 (by decide)) (by first | decide | omega | exact fun z => absurd z.1 (by decide))]; exact hi)]; exact f1 _ _ (by first | decide | omega | exact fun z => absurd z.1 (by decide)) (by first | decide | omega | exact fun z => absurd z.1 (by decide))) | (trace_state; fail))
