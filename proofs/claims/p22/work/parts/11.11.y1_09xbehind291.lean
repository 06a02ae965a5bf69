theorem x_behind_29_1 {l : Launch} {ν : am_N} {Q : Option am_V → am_N → Prop} (F G : Int) (hF : ν 34 0 = F) (hG : ν 34 (ν 29 0 - 1).toNat = G) (en : ν 29 0 = ν 1 4) (hF0 : 0 ≤ F) (hF1 : F < ν 1 4) (hG0 : 0 ≤ G) (hG1 : G < ν 1 4) (hn : ν 1 4 ≤ 4) (hr : 0 ≤ ν 1 2 ∧ ν 1 2 ≤ 4) (hy : 1 ≤ ν 1 3 ∧ ν 1 3 ≤ 9) (hs : ∀ b : Nat, b < 4 → 0 ≤ ν 6 b ∧ ν 6 b ≤ 99) (k : ∀ μ' : am_N, (∀ a b, a ≠ 6 → ¬(a = 1 ∧ b = 1) → μ' a b = ν a b) → μ' 6 = am_mn (ν 1 2) (ν 1 3) (ν 1 4) F G (ν 6) → μ' 1 1 = ν 1 1 + 1 → Q none μ') : am_Does l 35 [.inr (.inr 29), .inr (.inr 1)] ν Q := by
  refine am_Does_of (Nat.le_of_ble_eq_true rfl) (Nat.le_of_ble_eq_true rfl) (Nat.le_of_ble_eq_true rfl) ?_
  refine am_go (ct := fun _ => false) am_oX2_behind 300 ?_
  conv => whnf
  repeat' first
    | (refine (?_ : am_wp _ _ _ _ _ _ _ _ _ _ _ _); conv => whnf)
    | (refine (?_ : am_sw _ _ _ _); conv => whnf)
    | refine And.intro trivial ?_
    | exact trivial
    | ((with_reducible refine (?_ : am_Does _ 37 _ _ _)); refine x_first_29_1 F hF ?_ ?_ ?_)
    | ((with_reducible refine (?_ : am_Does _ 38 _ _ _)); refine x_last_29_1 G hG ?_ ?_ ?_)
    | ((with_reducible refine (?_ : am_Does _ 12 _ _ _)); refine x_mend_1 _ _ hF0 hF1 hG0 hG1 hn hr hy hs (fun μ1 f1 s1 => ?_))
    | refine k _ ?_ ?_ ?_
    | refine And.intro (fun h => absurd h (by decide)) (fun _ => ?_)
    | refine And.intro (fun _ => ?_) (fun h => absurd (by decide) h)
    | refine And.intro (fun _ => ?_) (fun _ => ?_)
    | refine And.intro ?_ ?_
  all_goals (first | decide | omega | (intro a b h1 h2; rw [am_uE h2]; exact f1 a b h1) | (rw [am_pt_up]; exact s1) | (funext b; rw [am_upN (by decide), s1]) | (rw [am_upS, if_pos ⟨rfl, rfl⟩, f1 _ _ (by decide)]) | (trace_state; fail))
