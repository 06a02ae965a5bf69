theorem s_set_3 {l : Launch} {ν : am_N} {Q : Option am_V → am_N → Prop} (w v : Int) (cw : am_c w = w) (cv : am_c v = v) (hW : w = 3) (k1 : (0 ≤ w ∧ w ≤ 3) → fp_sb w v → Q (some (.inl (ν 1 (fp_sl w)))) (am_up (am_up ν 1 (fp_sl w) v) 62 3 0)) (k0 : ¬((0 ≤ w ∧ w ≤ 3) ∧ fp_sb w v) → ∀ (r : Int) (μ' : am_N), (∀ a b, a ≠ 78 → μ' a b = ν a b) → Q (some (.inl r)) μ') : am_Does l 66 [.inr (.inr 0), .inl w, .inl v] ν Q := by
  refine am_Does_of (Nat.le_of_ble_eq_true rfl) (Nat.le_of_ble_eq_true rfl) (Nat.le_of_ble_eq_true rfl) ?_
  have l0 : am_c 0 = 0 := rfl
  have l1 : am_c 1 = 1 := rfl
  have l2 : am_c 2 = 2 := rfl
  have l3 : am_c 3 = 3 := rfl
  have l4 : am_c 4 = 4 := rfl
  have l5 : am_c 5 = 5 := rfl
  have l7 : am_c 7 = 7 := rfl
  have l9 : am_c 9 = 9 := rfl
  have l10 : am_c 10 = 10 := rfl
  have l20 : am_c 20 = 20 := rfl
  have l96 : am_c 96 = 96 := rfl
  have l99 : am_c 99 = 99 := rfl
  have l200 : am_c 200 = 200 := rfl
  have l255 : am_c 255 = 255 := rfl
  have l999 : am_c 999 = 999 := rfl
  subst hW
  have kk : 0 ≤ v → v ≤ 999 → Q (some (.inl (ν 1 (fp_sl 3)))) (am_up (am_up ν 1 (fp_sl 3) v) 62 3 0) := fun a b => k1 (by decide) (show 0 ≤ v ∧ v ≤ 999 from ⟨a, b⟩)
  have kn : ¬(0 ≤ v ∧ v ≤ 999) → ∀ (r : Int) (μ' : am_N), (∀ a b, a ≠ 78 → μ' a b = ν a b) → Q (some (.inl r)) μ' := fun h => k0 (fun z => h z.2)
  refine am_go (ct := fun _ => false) am_oX6_set 300 ?_
  conv => whnf
  repeat' first
    | (refine (?_ : am_wp _ _ _ _ _ _ _ _ _ _ _ _); conv => whnf)
    | (refine (?_ : am_sw _ _ _ _); conv => whnf)
    | refine And.intro trivial ?_
    | exact trivial
    | ((with_reducible refine (?_ : am_Does _ 113 _ _ _)); refine x_refuse _ ?_ (fun μr fr => ?_))
    | ((with_reducible refine (?_ : am_Does _ 119 _ _ _)); (refine x_leastOf _ cw (fun a ea => ?_); have ea2 : a = 0 := ea; have ca : am_c a = 0 := (by rw [ea2]; rfl)))
    | ((with_reducible refine (?_ : am_Does _ 120 _ _ _)); (refine x_mostOf _ cw (fun b eb => ?_); have eb2 : b = 999 := eb; have cb : am_c b = 999 := (by rw [eb2]; rfl)))
    | ((with_reducible refine (?_ : am_Does _ 6 _ _ _)); refine x_setting _ cw ?_)
    | ((with_reducible refine (?_ : am_Does _ 7 _ _ _)); refine x_become _ _ cw ?_)
    | ((with_reducible refine (?_ : am_Does _ 49 _ _ _)); refine v_drop_X4 ?_)
    | exact kn (by omega) _ _ fr
    | exact kk (by omega) (by omega)
    | refine And.intro (fun h => absurd h (by omega)) (fun _ => ?_)
    | refine And.intro (fun _ => ?_) (fun h => absurd h (by omega))
    | refine And.intro (fun h => absurd h (by decide)) (fun _ => ?_)
    | refine And.intro (fun _ => ?_) (fun h => absurd (by decide) h)
    | refine And.intro (fun _ => ?_) (fun _ => ?_)
    | refine And.intro ?_ ?_
  all_goals (first | decide | omega | (trace_state; fail))
