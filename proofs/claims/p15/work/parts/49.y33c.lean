theorem s_putStarts1 {l : Launch} {ν : am_N} {Q : Option am_V → am_N → Prop} (F : am_N) (st : Int) (m c : Nat) (mI cI : Int) (em : mI = (m : Int)) (ecc : cI = (c : Int)) (hw : fp_fw 999 F) (m2 : 2 ≤ m) (m20 : m ≤ 20) (hc : c ≤ 100000) (s0 : 0 ≤ st) (s1 : ((m : Int) - 1) * st ≤ 99) (hn : ν 1 4 = 1) (h4 : F 0 4 = ((1 : Nat) : Int)) (hT : fp_TB ν F st m 1) (hR : c = 0 ∨ fp_RW ν F st m 1 (c - 1)) (k : ∀ μ' : am_N, (∀ a b, ¬(30 ≤ a ∧ a ≤ 32) → μ' a b = ν a b) → fp_RW μ' F st m 1 c → Q none μ') : am_Does l 124 [.inr (.inr 0), .inl cI, .inl mI] ν Q := by
  have hn3 : (1 : Nat) ≤ 3 := by decide
  refine am_Does_of (Nat.le_of_ble_eq_true rfl) (Nat.le_of_ble_eq_true rfl) (Nat.le_of_ble_eq_true rfl) ?_
  refine am_go (ct := fun pc => Nat.beq pc 13) am_oX6_putStarts 300 ?_
  conv => whnf
  repeat' first
    | (refine (?_ : am_wp _ _ _ _ _ _ _ _ _ _ _ _); conv => whnf)
    | refine And.intro trivial ?_
  rw [hn]
  refine s_ps0 F st m c 0 1 mI cI cI em ecc ecc _ hw m2 m20 hc s0 s1 (by decide) (Int.le_of_eq h4.symm) hn3 hT (fun d0 μ1 f0 w0 => ?_) (fun d0 yy0 ye0 o0 μ1 f0 w0 => ?_)
  · refine k _ (fun a b q => (f0 a b (by omega))) (fun q hq => ?_)
    have cz : ¬ c = 0 := fun z => d0 (by rw [z]; exact Nat.zero_mod m)
    obtain rfl : q = 0 := by omega
    exact w0
  · have g0 : (∀ a b, ¬(30 ≤ a ∧ a ≤ 32) → μ1 a b = ν a b) := (fun a b q => (f0 a b (by omega)))
    have r0_0 : fp_rw1 μ1 F 0 (fp_sv st m c 0) := w0
    have FIN : ∀ q : Nat, q < 1 → fp_rw1 μ1 F q (fp_sv st m c (1 - 1 - q)) := by
      intro q hq
      obtain rfl : q = 0 := by omega
      exact r0_0
    refine am_go (ct := fun pc => Nat.beq pc 13) am_oX6_putStarts 300 ?_
    conv => whnf
    repeat' first
      | (refine (?_ : am_wp _ _ _ _ _ _ _ _ _ _ _ _); conv => whnf)
      | refine And.intro trivial ?_
      | exact k _ g0 FIN
      | refine And.intro (fun _ => ?_) (fun h => absurd h (by decide))
      | refine And.intro (fun h => absurd h (by decide)) (fun _ => ?_)
      | fail
theorem s_putStarts2 {l : Launch} {ν : am_N} {Q : Option am_V → am_N → Prop} (F : am_N) (st : Int) (m c : Nat) (mI cI : Int) (em : mI = (m : Int)) (ecc : cI = (c : Int)) (hw : fp_fw 999 F) (m2 : 2 ≤ m) (m20 : m ≤ 20) (hc : c ≤ 100000) (s0 : 0 ≤ st) (s1 : ((m : Int) - 1) * st ≤ 99) (hn : ν 1 4 = 2) (h4 : F 0 4 = ((2 : Nat) : Int)) (hT : fp_TB ν F st m 2) (hR : c = 0 ∨ fp_RW ν F st m 2 (c - 1)) (k : ∀ μ' : am_N, (∀ a b, ¬(30 ≤ a ∧ a ≤ 32) → μ' a b = ν a b) → fp_RW μ' F st m 2 c → Q none μ') : am_Does l 124 [.inr (.inr 0), .inl cI, .inl mI] ν Q := by
  have hn3 : (2 : Nat) ≤ 3 := by decide
  refine am_Does_of (Nat.le_of_ble_eq_true rfl) (Nat.le_of_ble_eq_true rfl) (Nat.le_of_ble_eq_true rfl) ?_
  refine am_go (ct := fun pc => Nat.beq pc 13) am_oX6_putStarts 300 ?_
  conv => whnf
  repeat' first
    | (refine (?_ : am_wp _ _ _ _ _ _ _ _ _ _ _ _); conv => whnf)
    | refine And.intro trivial ?_
  rw [hn]
  refine s_ps1 F st m c 0 2 mI cI cI em ecc ecc _ hw m2 m20 hc s0 s1 (by decide) (Int.le_of_eq h4.symm) hn3 hT (fun d1 μ2 f1 w1 => ?_) (fun d1 yy1 ye1 o1 μ2 f1 w1 => ?_)
  · refine k _ (fun a b q => (f1 a b (by omega))) (fun q hq => ?_)
    have cz : ¬ c = 0 := fun z => d1 (by rw [z]; exact Nat.zero_mod m)
    rcases (show q = 0 ∨ q = 1 by omega) with rfl | rfl
    · exact (by have e : fp_sv st m (c - 1) 1 = fp_sv st m c 1 := (by unfold fp_sv; rw [show fp_dq m (c - 1) 1 % m = fp_dq m c 1 % m from (by show (c - 1) / m % m = c / m % m; rw [fp_cA (m := m) (c := c) (by omega) d1])]); have z : fp_rw1 μ2 F 0 (fp_sv st m (c - 1) 1) := fp_rw1_e (hR.resolve_left cz 0 (by decide)) (fun a q1 q2 => (f1 a 0 (by omega))); rw [e] at z; exact z)
    · exact w1
  · have g1 : (∀ a b, ¬(30 ≤ a ∧ a ≤ 32) → μ2 a b = ν a b) := (fun a b q => (f1 a b (by omega)))
    have r1_1 : fp_rw1 μ2 F 1 (fp_sv st m c 0) := w1
    refine s_ps0 F st m c 1 2 mI cI yy1 em ecc ye1 _ hw m2 m20 hc s0 s1 (by decide) (Int.le_of_eq h4.symm) hn3 (fp_TB_e hT g1 hn3) (fun d0 μ1 f0 w0 => ?_) (fun d0 yy0 ye0 o0 μ1 f0 w0 => ?_)
    · refine k _ (fun a b q => (f0 a b (by omega)).trans (g1 a b q)) (fun q hq => ?_)
      have cz : ¬ c = 0 := fun z => d0 (by rw [z]; show 0 / m % m = 0; rw [Nat.zero_div]; exact Nat.zero_mod m)
      rcases (show q = 0 ∨ q = 1 by omega) with rfl | rfl
      · exact w0
      · exact (fp_rw1_e r1_1 (fun a q1 q2 => f0 a _ (by omega)))
    · have g0 : (∀ a b, ¬(30 ≤ a ∧ a ≤ 32) → μ1 a b = ν a b) := (fun a b q => (f0 a b (by omega)).trans (g1 a b q))
      have r0_1 : fp_rw1 μ1 F 1 (fp_sv st m c 0) := (fp_rw1_e r1_1 (fun a q1 q2 => f0 a _ (by omega)))
      have r0_0 : fp_rw1 μ1 F 0 (fp_sv st m c 1) := w0
      have FIN : ∀ q : Nat, q < 2 → fp_rw1 μ1 F q (fp_sv st m c (2 - 1 - q)) := by
        intro q hq
        rcases (show q = 0 ∨ q = 1 by omega) with rfl | rfl
        · exact r0_0
        · exact r0_1
      refine am_go (ct := fun pc => Nat.beq pc 13) am_oX6_putStarts 300 ?_
      conv => whnf
      repeat' first
        | (refine (?_ : am_wp _ _ _ _ _ _ _ _ _ _ _ _); conv => whnf)
        | refine And.intro trivial ?_
        | exact k _ g0 FIN
        | refine And.intro (fun _ => ?_) (fun h => absurd h (by decide))
        | refine And.intro (fun h => absurd h (by decide)) (fun _ => ?_)
        | fail
theorem s_putStarts3 {l : Launch} {ν : am_N} {Q : Option am_V → am_N → Prop} (F : am_N) (st : Int) (m c : Nat) (mI cI : Int) (em : mI = (m : Int)) (ecc : cI = (c : Int)) (hw : fp_fw 999 F) (m2 : 2 ≤ m) (m20 : m ≤ 20) (hc : c ≤ 100000) (s0 : 0 ≤ st) (s1 : ((m : Int) - 1) * st ≤ 99) (hn : ν 1 4 = 3) (h4 : F 0 4 = ((3 : Nat) : Int)) (hT : fp_TB ν F st m 3) (hR : c = 0 ∨ fp_RW ν F st m 3 (c - 1)) (k : ∀ μ' : am_N, (∀ a b, ¬(30 ≤ a ∧ a ≤ 32) → μ' a b = ν a b) → fp_RW μ' F st m 3 c → Q none μ') : am_Does l 124 [.inr (.inr 0), .inl cI, .inl mI] ν Q := by
  have hn3 : (3 : Nat) ≤ 3 := by decide
  refine am_Does_of (Nat.le_of_ble_eq_true rfl) (Nat.le_of_ble_eq_true rfl) (Nat.le_of_ble_eq_true rfl) ?_
  refine am_go (ct := fun pc => Nat.beq pc 13) am_oX6_putStarts 300 ?_
  conv => whnf
  repeat' first
    | (refine (?_ : am_wp _ _ _ _ _ _ _ _ _ _ _ _); conv => whnf)
    | refine And.intro trivial ?_
  rw [hn]
  refine s_ps2 F st m c 0 3 mI cI cI em ecc ecc _ hw m2 m20 hc s0 s1 (by decide) (Int.le_of_eq h4.symm) hn3 hT (fun d2 μ3 f2 w2 => ?_) (fun d2 yy2 ye2 o2 μ3 f2 w2 => ?_)
  · refine k _ (fun a b q => (f2 a b (by omega))) (fun q hq => ?_)
    have cz : ¬ c = 0 := fun z => d2 (by rw [z]; exact Nat.zero_mod m)
    rcases (show q = 0 ∨ q = 1 ∨ q = 2 by omega) with rfl | rfl | rfl
    · exact (by have e : fp_sv st m (c - 1) 2 = fp_sv st m c 2 := (by unfold fp_sv; rw [show fp_dq m (c - 1) 2 % m = fp_dq m c 2 % m from (by show (c - 1) / m / m % m = c / m / m % m; rw [fp_cA (m := m) (c := c) (by omega) d2])]); have z : fp_rw1 μ3 F 0 (fp_sv st m (c - 1) 2) := fp_rw1_e (hR.resolve_left cz 0 (by decide)) (fun a q1 q2 => (f2 a 0 (by omega))); rw [e] at z; exact z)
    · exact (by have e : fp_sv st m (c - 1) 1 = fp_sv st m c 1 := (by unfold fp_sv; rw [show fp_dq m (c - 1) 1 % m = fp_dq m c 1 % m from (by show (c - 1) / m % m = c / m % m; rw [fp_cA (m := m) (c := c) (by omega) d2])]); have z : fp_rw1 μ3 F 1 (fp_sv st m (c - 1) 1) := fp_rw1_e (hR.resolve_left cz 1 (by decide)) (fun a q1 q2 => (f2 a 1 (by omega))); rw [e] at z; exact z)
    · exact w2
  · have g2 : (∀ a b, ¬(30 ≤ a ∧ a ≤ 32) → μ3 a b = ν a b) := (fun a b q => (f2 a b (by omega)))
    have r2_2 : fp_rw1 μ3 F 2 (fp_sv st m c 0) := w2
    refine s_ps1 F st m c 1 3 mI cI yy2 em ecc ye2 _ hw m2 m20 hc s0 s1 (by decide) (Int.le_of_eq h4.symm) hn3 (fp_TB_e hT g2 hn3) (fun d1 μ2 f1 w1 => ?_) (fun d1 yy1 ye1 o1 μ2 f1 w1 => ?_)
    · refine k _ (fun a b q => (f1 a b (by omega)).trans (g2 a b q)) (fun q hq => ?_)
      have cz : ¬ c = 0 := fun z => d1 (by rw [z]; show 0 / m % m = 0; rw [Nat.zero_div]; exact Nat.zero_mod m)
      rcases (show q = 0 ∨ q = 1 ∨ q = 2 by omega) with rfl | rfl | rfl
      · exact (by have e : fp_sv st m (c - 1) 2 = fp_sv st m c 2 := (by unfold fp_sv; rw [show fp_dq m (c - 1) 2 % m = fp_dq m c 2 % m from (by show (c - 1) / m / m % m = c / m / m % m; rw [fp_cB (m := m) (c := c) (by omega) d2 d1])]); have z : fp_rw1 μ2 F 0 (fp_sv st m (c - 1) 2) := fp_rw1_e (hR.resolve_left cz 0 (by decide)) (fun a q1 q2 => (f1 a 0 (by omega)).trans ((f2 a 0 (by omega)))); rw [e] at z; exact z)
      · exact w1
      · exact (fp_rw1_e r2_2 (fun a q1 q2 => f1 a _ (by omega)))
    · have g1 : (∀ a b, ¬(30 ≤ a ∧ a ≤ 32) → μ2 a b = ν a b) := (fun a b q => (f1 a b (by omega)).trans (g2 a b q))
      have r1_2 : fp_rw1 μ2 F 2 (fp_sv st m c 0) := (fp_rw1_e r2_2 (fun a q1 q2 => f1 a _ (by omega)))
      have r1_1 : fp_rw1 μ2 F 1 (fp_sv st m c 1) := w1
      refine s_ps0 F st m c 2 3 mI cI yy1 em ecc ye1 _ hw m2 m20 hc s0 s1 (by decide) (Int.le_of_eq h4.symm) hn3 (fp_TB_e hT g1 hn3) (fun d0 μ1 f0 w0 => ?_) (fun d0 yy0 ye0 o0 μ1 f0 w0 => ?_)
      · refine k _ (fun a b q => (f0 a b (by omega)).trans (g1 a b q)) (fun q hq => ?_)
        have cz : ¬ c = 0 := fun z => d0 (by rw [z]; show 0 / m / m % m = 0; rw [Nat.zero_div, Nat.zero_div]; exact Nat.zero_mod m)
        rcases (show q = 0 ∨ q = 1 ∨ q = 2 by omega) with rfl | rfl | rfl
        · exact w0
        · exact (fp_rw1_e r1_1 (fun a q1 q2 => f0 a _ (by omega)))
        · exact (fp_rw1_e r1_2 (fun a q1 q2 => f0 a _ (by omega)))
      · have g0 : (∀ a b, ¬(30 ≤ a ∧ a ≤ 32) → μ1 a b = ν a b) := (fun a b q => (f0 a b (by omega)).trans (g1 a b q))
        have r0_2 : fp_rw1 μ1 F 2 (fp_sv st m c 0) := (fp_rw1_e r1_2 (fun a q1 q2 => f0 a _ (by omega)))
        have r0_1 : fp_rw1 μ1 F 1 (fp_sv st m c 1) := (fp_rw1_e r1_1 (fun a q1 q2 => f0 a _ (by omega)))
        have r0_0 : fp_rw1 μ1 F 0 (fp_sv st m c 2) := w0
        have FIN : ∀ q : Nat, q < 3 → fp_rw1 μ1 F q (fp_sv st m c (3 - 1 - q)) := by
          intro q hq
          rcases (show q = 0 ∨ q = 1 ∨ q = 2 by omega) with rfl | rfl | rfl
          · exact r0_0
          · exact r0_1
          · exact r0_2
        refine am_go (ct := fun pc => Nat.beq pc 13) am_oX6_putStarts 300 ?_
        conv => whnf
        repeat' first
          | (refine (?_ : am_wp _ _ _ _ _ _ _ _ _ _ _ _); conv => whnf)
          | refine And.intro trivial ?_
          | exact k _ g0 FIN
          | refine And.intro (fun _ => ?_) (fun h => absurd h (by decide))
          | refine And.intro (fun h => absurd h (by decide)) (fun _ => ?_)
          | fail
