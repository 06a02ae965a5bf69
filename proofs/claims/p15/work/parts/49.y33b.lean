theorem s_ps0 {l : Launch} {ν : am_N} {Q : Option am_V → am_N → Prop} (F : am_N) (st : Int) (m c a n : Nat) (mI cI yI : Int) (em : mI = (m : Int)) (ecc : cI = (c : Int)) (ey : yI = ((fp_dq m c a : Nat) : Int)) (o5 : Option am_V) (hw : fp_fw 999 F) (m2 : 2 ≤ m) (m20 : m ≤ 20) (hc : c ≤ 100000) (s0 : 0 ≤ st) (s1 : ((m : Int) - 1) * st ≤ 99) (hB : 0 < n) (hn : (n : Int) ≤ F 0 4) (hn3 : n ≤ 3) (hT : fp_TB ν F st m n) (kr : fp_dq m c a % m ≠ 0 → ∀ μ' : am_N, (∀ a b, ¬(30 ≤ a ∧ a ≤ 32 ∧ b = 0) → μ' a b = ν a b) → fp_rw1 μ' F 0 (fp_sv st m c a) → Q none μ') (kc : fp_dq m c a % m = 0 → ∀ (y2 : Int), y2 = ((fp_dq m c (a + 1) : Nat) : Int) → ∀ (o5 : Option am_V) (μ' : am_N), (∀ a b, ¬(30 ≤ a ∧ a ≤ 32 ∧ b = 0) → μ' a b = ν a b) → fp_rw1 μ' F 0 (fp_sv st m c a) → am_AW l 0 (fun _ => 0) 124 Q 13 [some (.inr (.inr 0)), some (.inl cI), some (.inl mI), some (.inl y2), some (.inl (-1)), o5] [] μ') : am_AW l 0 (fun _ => 0) 124 Q 13 [some (.inr (.inr 0)), some (.inl cI), some (.inl mI), some (.inl yI), some (.inl 0), o5] [] ν := by
  have l0 : am_c 0 = 0 := rfl
  have l1 : am_c 1 = 1 := rfl
  have l2 : am_c 2 = 2 := rfl
  have l3 : am_c 3 = 3 := rfl
  have l5 : am_c 5 = 5 := rfl
  have l20 : am_c 20 = 20 := rfl
  have l50 : am_c 50 = 50 := rfl
  have l99 : am_c 99 = 99 := rfl
  have hl := fp_dq_l m c a
  have dm := Nat.mod_lt (fp_dq m c a) (show 0 < m by omega)
  have cm : am_c mI = mI := am_cR (by omega) (by omega)
  have cy : am_c yI = yI := am_cR (by omega) (by omega)
  obtain ⟨dI, ed2⟩ : ∃ dI : Int, dI = ((fp_dq m c a % m : Nat) : Int) := ⟨_, rfl⟩
  have rem : (am_c yI).tmod (am_c mI) = dI := by rw [cy, cm, ey, em, ed2]; exact fp_rmN _ _
  have quo : (am_c yI).tdiv (am_c mI) = ((fp_dq m c (a + 1) : Nat) : Int) := by rw [cy, cm, ey, em]; exact fp_qmN _ _
  have cd : am_c dI = dI := am_cR (by omega) (by omega)
  have ed : (am_c dI).toNat = fp_dq m c a % m := by rw [cd, ed2, Int.toNat_natCast]
  have sb := fp_sv_b (c := c) (a := a) (show 0 < m by omega) s0 s1
  have tb := fp_tt_b (q := 0) (s := fp_sv st m c a) hw (by omega) sb.1 sb.2
  have eT : ν 80 (fp_dq m c a % m) = fp_tt F 0 (fp_sv st m c a) := hT.1 0 _ hB dm
  have eS : ν 5 0 = F 4 0 := hT.2 0 hB
  have sp := (hw.2.2.2.2.2.2 0 (by omega)).2.2.2
  refine am_go (ct := fun pc => Nat.beq pc 13) am_oX6_putStarts 300 ?_
  conv => whnf
  repeat' first
    | (refine (?_ : am_wp _ _ _ _ _ _ _ _ _ _ _ _); conv => whnf)
    | (refine (?_ : am_sw _ _ _ _); conv => whnf)
    | refine And.intro trivial ?_
    | exact trivial
    | ((with_reducible refine (?_ : ∀ j : Nat, (_ : Option Nat) = some j → _)); refine am_aa1 (a := 80) rfl ?_)
    | (rw [rem, ed, eT, show ν 5 (am_c 0).toNat = F 4 0 from eS]; refine x_put 0 (fp_tt F 0 (fp_sv st m c a)) (F 4 0) (by decide) (by decide) tb.1 (by omega) sp.1 sp.2 (fun μ1 f1 y2 y3 y4 => ?_); have f1' : (∀ a b, ¬(30 ≤ a ∧ a ≤ 32 ∧ b = 0) → μ1 a b = ν a b) := f1)
    | (refine kr ?_ _ f1' ⟨y2, y3, y4⟩)
    | (refine kc ?_ _ quo _ _ f1' ⟨y2, y3, y4⟩)
    | refine And.intro (fun h => absurd h (by decide)) (fun _ => ?_)
    | refine And.intro (fun _ => ?_) (fun h => absurd (by decide) h)
    | refine And.intro (fun _ => ?_) (fun _ => ?_)
    | refine And.intro ?_ ?_
  all_goals (first | decide | omega | ((simp only [rem, cd, l0] at *; first | done | omega)) | (rw [rem, cd]; omega) | ((simp only [cm, l0, l1] at *; first | done | omega)) | (exfalso; have z : (20 : Int) ≤ am_c ((am_c yI).tmod (am_c mI)) := (by assumption); rw [rem, cd] at z; omega) | (trace_state; fail))
theorem s_ps1 {l : Launch} {ν : am_N} {Q : Option am_V → am_N → Prop} (F : am_N) (st : Int) (m c a n : Nat) (mI cI yI : Int) (em : mI = (m : Int)) (ecc : cI = (c : Int)) (ey : yI = ((fp_dq m c a : Nat) : Int)) (o5 : Option am_V) (hw : fp_fw 999 F) (m2 : 2 ≤ m) (m20 : m ≤ 20) (hc : c ≤ 100000) (s0 : 0 ≤ st) (s1 : ((m : Int) - 1) * st ≤ 99) (hB : 1 < n) (hn : (n : Int) ≤ F 0 4) (hn3 : n ≤ 3) (hT : fp_TB ν F st m n) (kr : fp_dq m c a % m ≠ 0 → ∀ μ' : am_N, (∀ a b, ¬(30 ≤ a ∧ a ≤ 32 ∧ b = 1) → μ' a b = ν a b) → fp_rw1 μ' F 1 (fp_sv st m c a) → Q none μ') (kc : fp_dq m c a % m = 0 → ∀ (y2 : Int), y2 = ((fp_dq m c (a + 1) : Nat) : Int) → ∀ (o5 : Option am_V) (μ' : am_N), (∀ a b, ¬(30 ≤ a ∧ a ≤ 32 ∧ b = 1) → μ' a b = ν a b) → fp_rw1 μ' F 1 (fp_sv st m c a) → am_AW l 0 (fun _ => 0) 124 Q 13 [some (.inr (.inr 0)), some (.inl cI), some (.inl mI), some (.inl y2), some (.inl (0)), o5] [] μ') : am_AW l 0 (fun _ => 0) 124 Q 13 [some (.inr (.inr 0)), some (.inl cI), some (.inl mI), some (.inl yI), some (.inl 1), o5] [] ν := by
  have l0 : am_c 0 = 0 := rfl
  have l1 : am_c 1 = 1 := rfl
  have l2 : am_c 2 = 2 := rfl
  have l3 : am_c 3 = 3 := rfl
  have l5 : am_c 5 = 5 := rfl
  have l20 : am_c 20 = 20 := rfl
  have l50 : am_c 50 = 50 := rfl
  have l99 : am_c 99 = 99 := rfl
  have hl := fp_dq_l m c a
  have dm := Nat.mod_lt (fp_dq m c a) (show 0 < m by omega)
  have cm : am_c mI = mI := am_cR (by omega) (by omega)
  have cy : am_c yI = yI := am_cR (by omega) (by omega)
  obtain ⟨dI, ed2⟩ : ∃ dI : Int, dI = ((fp_dq m c a % m : Nat) : Int) := ⟨_, rfl⟩
  have rem : (am_c yI).tmod (am_c mI) = dI := by rw [cy, cm, ey, em, ed2]; exact fp_rmN _ _
  have quo : (am_c yI).tdiv (am_c mI) = ((fp_dq m c (a + 1) : Nat) : Int) := by rw [cy, cm, ey, em]; exact fp_qmN _ _
  have cd : am_c dI = dI := am_cR (by omega) (by omega)
  have ed : (am_c dI).toNat = fp_dq m c a % m := by rw [cd, ed2, Int.toNat_natCast]
  have sb := fp_sv_b (c := c) (a := a) (show 0 < m by omega) s0 s1
  have tb := fp_tt_b (q := 1) (s := fp_sv st m c a) hw (by omega) sb.1 sb.2
  have eT : ν 81 (fp_dq m c a % m) = fp_tt F 1 (fp_sv st m c a) := hT.1 1 _ hB dm
  have eS : ν 5 1 = F 4 1 := hT.2 1 hB
  have sp := (hw.2.2.2.2.2.2 1 (by omega)).2.2.2
  refine am_go (ct := fun pc => Nat.beq pc 13) am_oX6_putStarts 300 ?_
  conv => whnf
  repeat' first
    | (refine (?_ : am_wp _ _ _ _ _ _ _ _ _ _ _ _); conv => whnf)
    | (refine (?_ : am_sw _ _ _ _); conv => whnf)
    | refine And.intro trivial ?_
    | exact trivial
    | ((with_reducible refine (?_ : ∀ j : Nat, (_ : Option Nat) = some j → _)); refine am_aa1 (a := 81) rfl ?_)
    | (rw [rem, ed, eT, show ν 5 (am_c 1).toNat = F 4 1 from eS]; refine x_put 1 (fp_tt F 1 (fp_sv st m c a)) (F 4 1) (by decide) (by decide) tb.1 (by omega) sp.1 sp.2 (fun μ1 f1 y2 y3 y4 => ?_); have f1' : (∀ a b, ¬(30 ≤ a ∧ a ≤ 32 ∧ b = 1) → μ1 a b = ν a b) := f1)
    | (refine kr ?_ _ f1' ⟨y2, y3, y4⟩)
    | (refine kc ?_ _ quo _ _ f1' ⟨y2, y3, y4⟩)
    | refine And.intro (fun h => absurd h (by decide)) (fun _ => ?_)
    | refine And.intro (fun _ => ?_) (fun h => absurd (by decide) h)
    | refine And.intro (fun _ => ?_) (fun _ => ?_)
    | refine And.intro ?_ ?_
  all_goals (first | decide | omega | ((simp only [rem, cd, l0] at *; first | done | omega)) | (rw [rem, cd]; omega) | ((simp only [cm, l0, l1] at *; first | done | omega)) | (exfalso; have z : (20 : Int) ≤ am_c ((am_c yI).tmod (am_c mI)) := (by assumption); rw [rem, cd] at z; omega) | (trace_state; fail))
theorem s_ps2 {l : Launch} {ν : am_N} {Q : Option am_V → am_N → Prop} (F : am_N) (st : Int) (m c a n : Nat) (mI cI yI : Int) (em : mI = (m : Int)) (ecc : cI = (c : Int)) (ey : yI = ((fp_dq m c a : Nat) : Int)) (o5 : Option am_V) (hw : fp_fw 999 F) (m2 : 2 ≤ m) (m20 : m ≤ 20) (hc : c ≤ 100000) (s0 : 0 ≤ st) (s1 : ((m : Int) - 1) * st ≤ 99) (hB : 2 < n) (hn : (n : Int) ≤ F 0 4) (hn3 : n ≤ 3) (hT : fp_TB ν F st m n) (kr : fp_dq m c a % m ≠ 0 → ∀ μ' : am_N, (∀ a b, ¬(30 ≤ a ∧ a ≤ 32 ∧ b = 2) → μ' a b = ν a b) → fp_rw1 μ' F 2 (fp_sv st m c a) → Q none μ') (kc : fp_dq m c a % m = 0 → ∀ (y2 : Int), y2 = ((fp_dq m c (a + 1) : Nat) : Int) → ∀ (o5 : Option am_V) (μ' : am_N), (∀ a b, ¬(30 ≤ a ∧ a ≤ 32 ∧ b = 2) → μ' a b = ν a b) → fp_rw1 μ' F 2 (fp_sv st m c a) → am_AW l 0 (fun _ => 0) 124 Q 13 [some (.inr (.inr 0)), some (.inl cI), some (.inl mI), some (.inl y2), some (.inl (1)), o5] [] μ') : am_AW l 0 (fun _ => 0) 124 Q 13 [some (.inr (.inr 0)), some (.inl cI), some (.inl mI), some (.inl yI), some (.inl 2), o5] [] ν := by
  have l0 : am_c 0 = 0 := rfl
  have l1 : am_c 1 = 1 := rfl
  have l2 : am_c 2 = 2 := rfl
  have l3 : am_c 3 = 3 := rfl
  have l5 : am_c 5 = 5 := rfl
  have l20 : am_c 20 = 20 := rfl
  have l50 : am_c 50 = 50 := rfl
  have l99 : am_c 99 = 99 := rfl
  have hl := fp_dq_l m c a
  have dm := Nat.mod_lt (fp_dq m c a) (show 0 < m by omega)
  have cm : am_c mI = mI := am_cR (by omega) (by omega)
  have cy : am_c yI = yI := am_cR (by omega) (by omega)
  obtain ⟨dI, ed2⟩ : ∃ dI : Int, dI = ((fp_dq m c a % m : Nat) : Int) := ⟨_, rfl⟩
  have rem : (am_c yI).tmod (am_c mI) = dI := by rw [cy, cm, ey, em, ed2]; exact fp_rmN _ _
  have quo : (am_c yI).tdiv (am_c mI) = ((fp_dq m c (a + 1) : Nat) : Int) := by rw [cy, cm, ey, em]; exact fp_qmN _ _
  have cd : am_c dI = dI := am_cR (by omega) (by omega)
  have ed : (am_c dI).toNat = fp_dq m c a % m := by rw [cd, ed2, Int.toNat_natCast]
  have sb := fp_sv_b (c := c) (a := a) (show 0 < m by omega) s0 s1
  have tb := fp_tt_b (q := 2) (s := fp_sv st m c a) hw (by omega) sb.1 sb.2
  have eT : ν 82 (fp_dq m c a % m) = fp_tt F 2 (fp_sv st m c a) := hT.1 2 _ hB dm
  have eS : ν 5 2 = F 4 2 := hT.2 2 hB
  have sp := (hw.2.2.2.2.2.2 2 (by omega)).2.2.2
  refine am_go (ct := fun pc => Nat.beq pc 13) am_oX6_putStarts 300 ?_
  conv => whnf
  repeat' first
    | (refine (?_ : am_wp _ _ _ _ _ _ _ _ _ _ _ _); conv => whnf)
    | (refine (?_ : am_sw _ _ _ _); conv => whnf)
    | refine And.intro trivial ?_
    | exact trivial
    | ((with_reducible refine (?_ : ∀ j : Nat, (_ : Option Nat) = some j → _)); refine am_aa1 (a := 82) rfl ?_)
    | (rw [rem, ed, eT, show ν 5 (am_c 2).toNat = F 4 2 from eS]; refine x_put 2 (fp_tt F 2 (fp_sv st m c a)) (F 4 2) (by decide) (by decide) tb.1 (by omega) sp.1 sp.2 (fun μ1 f1 y2 y3 y4 => ?_); have f1' : (∀ a b, ¬(30 ≤ a ∧ a ≤ 32 ∧ b = 2) → μ1 a b = ν a b) := f1)
    | (refine kr ?_ _ f1' ⟨y2, y3, y4⟩)
    | (refine kc ?_ _ quo _ _ f1' ⟨y2, y3, y4⟩)
    | refine And.intro (fun h => absurd h (by decide)) (fun _ => ?_)
    | refine And.intro (fun _ => ?_) (fun h => absurd (by decide) h)
    | refine And.intro (fun _ => ?_) (fun _ => ?_)
    | refine And.intro ?_ ?_
  all_goals (first | decide | omega | ((simp only [rem, cd, l0] at *; first | done | omega)) | (rw [rem, cd]; omega) | ((simp only [cm, l0, l1] at *; first | done | omega)) | (exfalso; have z : (20 : Int) ≤ am_c ((am_c yI).tmod (am_c mI)) := (by assumption); rw [rem, cd] at z; omega) | (trace_state; fail))
