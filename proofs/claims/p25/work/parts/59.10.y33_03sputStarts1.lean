theorem s_putStarts1 {l : Launch} {ν : am_N} {Q : Option am_V → am_N → Prop} (F : am_N) (st : Int) (m c : Nat) (hw : fp_fw 999 F) (m2 : 2 ≤ m) (m20 : m ≤ 20) (hc : c ≤ 100000) (s0 : 0 ≤ st) (s1 : ((m : Int) - 1) * st ≤ 99) (hn : ν 1 4 = 1) (h4 : F 0 4 = ((1 : Nat) : Int)) (hT : fp_TB ν F st m 1) (hR : c = 0 ∨ fp_RW ν F st m 1 (c - 1)) (k : ∀ μ' : am_N, (∀ a b, ¬(30 ≤ a ∧ a ≤ 32) → μ' a b = ν a b) → fp_RW μ' F st m 1 c → Q none μ') : am_Does l 124 [.inr (.inr 0), .inl (c : Int), .inl (m : Int)] ν Q := by
  have hn3 : (1 : Nat) ≤ 3 := by decide
  refine am_Does_of (Nat.le_of_ble_eq_true rfl) (Nat.le_of_ble_eq_true rfl) (Nat.le_of_ble_eq_true rfl) ?_
  refine am_go (ct := fun pc => Nat.beq pc 13) am_oX6_putStarts 300 ?_
  conv => whnf
  repeat' first
    | (refine (?_ : am_wp _ _ _ _ _ _ _ _ _ _ _ _); conv => whnf)
    | refine And.intro trivial ?_
  rw [hn]
  refine s_ps0 F st m c 0 1 _ hw m2 m20 hc s0 s1 (by decide) (by rw [h4]; exact Int.le_refl _) hn3 hT (fun d0 μ1 f0 w0 => ?_) (fun d0 o0 μ1 f0 w0 => ?_)
  · refine k _ (fun a b q => (f0 a b (by omega))) (fun q hq => ?_)
    have cz : ¬ c = 0 := fun z => d0 (by rw [z]; exact Nat.zero_mod m)
    obtain rfl : q = 0 := by omega
    exact w0
  · have g0 : (∀ a b, ¬(30 ≤ a ∧ a ≤ 32) → μ1 a b = ν a b) := (fun a b q => (f0 a b (by omega)))
    have r0_0 : fp_rw1 μ1 F 0 (fp_sv st m c 0) := w0
    refine am_go (ct := fun pc => Nat.beq pc 13) am_oX6_putStarts 300 ?_
    conv => whnf
    repeat' first
      | (refine (?_ : am_wp _ _ _ _ _ _ _ _ _ _ _ _); conv => whnf)
      | refine And.intro trivial ?_
      | refine k _ g0 (fun q hq => ?_)
      | refine And.intro (fun _ => ?_) (fun h => absurd h (by decide))
      | refine And.intro (fun h => absurd h (by decide)) (fun _ => ?_)
    obtain rfl : q = 0 := by omega
    exact r0_0
