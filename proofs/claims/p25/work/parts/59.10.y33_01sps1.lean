theorem s_ps1 {l : Launch} {ν : am_N} {Q : Option am_V → am_N → Prop} (F : am_N) (st : Int) (m c a n : Nat) (o5 : Option am_V) (hw : fp_fw 999 F) (m2 : 2 ≤ m) (m20 : m ≤ 20) (hc : c ≤ 100000) (s0 : 0 ≤ st) (s1 : ((m : Int) - 1) * st ≤ 99) (hB : 1 < n) (hn : (n : Int) ≤ F 0 4) (hn3 : n ≤ 3) (hT : fp_TB ν F st m n) (kr : fp_dq m c a % m ≠ 0 → ∀ μ' : am_N, (∀ a b, ¬(30 ≤ a ∧ a ≤ 32 ∧ b = 1) → μ' a b = ν a b) → fp_rw1 μ' F 1 (fp_sv st m c a) → Q none μ') (kc : fp_dq m c a % m = 0 → ∀ (o5 : Option am_V) (μ' : am_N), (∀ a b, ¬(30 ≤ a ∧ a ≤ 32 ∧ b = 1) → μ' a b = ν a b) → fp_rw1 μ' F 1 (fp_sv st m c a) → am_AW l 0 (fun _ => 0) 124 Q 13 [some (.inr (.inr 0)), some (.inl ((c : Int))), some (.inl ((m : Int))), some (.inl ((fp_dq m c (a + 1) : Nat) : Int)), some (.inl (0)), o5] [] μ') : am_AW l 0 (fun _ => 0) 124 Q 13 [some (.inr (.inr 0)), some (.inl (c : Int)), some (.inl (m : Int)), some (.inl ((fp_dq m c a : Nat) : Int)), some (.inl 1), o5] [] ν := by
  have l0 : am_c 0 = 0 := rfl
  have l1 : am_c 1 = 1 := rfl
  have l2 : am_c 2 = 2 := rfl
  have l3 : am_c 3 = 3 := rfl
  have l5 : am_c 5 = 5 := rfl
  have l20 : am_c 20 = 20 := rfl
  have l50 : am_c 50 = 50 := rfl
  have l99 : am_c 99 = 99 := rfl
  have hl := fp_dq_l m c a
  have dm := Nat.mod_lt (fp_dq m c a) (show 0 < m by omega)
  have cm : am_c (m : Int) = (m : Int) := am_cR (by omega) (by omega)
  have cy : am_c ((fp_dq m c a : Nat) : Int) = ((fp_dq m c a : Nat) : Int) := am_cR (by omega) (by omega)
  have rem : (am_c ((fp_dq m c a : Nat) : Int)).tmod (am_c (m : Int)) = ((fp_dq m c a % m : Nat) : Int) := by rw [cy, cm]; exact fp_rmN _ _
  have quo : (am_c ((fp_dq m c a : Nat) : Int)).tdiv (am_c (m : Int)) = ((fp_dq m c (a + 1) : Nat) : Int) := by rw [cy, cm]; exact fp_qmN _ _
  have cd : am_c ((fp_dq m c a % m : Nat) : Int) = ((fp_dq m c a % m : Nat) : Int) := am_cR (by omega) (by omega)
  have ed : (am_c ((fp_dq m c a % m : Nat) : Int)).toNat = fp_dq m c a % m := by rw [cd, Int.toNat_natCast]
  have sb := fp_sv_b (c := c) (a := a) (show 0 < m by omega) s0 s1
  have tb := fp_tt_b (q := 1) (s := fp_sv st m c a) hw (by omega) sb.1 sb.2
  have eT : ν 81 (fp_dq m c a % m) = fp_tt F 1 (fp_sv st m c a) := hT.1 1 _ hB dm
  have eS : ν 5 1 = F 4 1 := hT.2 1 hB
  have sp := (hw.2.2.2.2.2.2 1 (by omega)).2.2.2
  refine am_go (ct := fun pc => Nat.beq pc 13) am_oX6_putStarts 300 ?_
  conv => whnf
  repeat' first
    | (refine (?_ : am_wp _ _ _ _ _ _ _ _ _ _ _ _); conv => whnf)
    | (refine (?_ : am_sw _ _ _ _); conv => whnf)
    | refine And.intro trivial ?_
    | exact trivial
    | (refine am_aa1 (a := 81) rfl ?_)
    | (rw [rem, ed, eT, show ν 5 (am_c 1).toNat = F 4 1 from eS]; refine x_put 1 (fp_tt F 1 (fp_sv st m c a)) (F 4 1) (by decide) (by decide) tb.1 (by omega) sp.1 sp.2 (fun μ1 f1 y2 y3 y4 => ?_); have f1' : (∀ a b, ¬(30 ≤ a ∧ a ≤ 32 ∧ b = 1) → μ1 a b = ν a b) := f1)
    | (refine kr ?_ _ f1' ⟨y2, y3, y4⟩)
    | (rw [quo]; refine kc ?_ _ _ f1' ⟨y2, y3, y4⟩)
    | refine And.intro (fun h => absurd h (by decide)) (fun _ => ?_)
    | refine And.intro (fun _ => ?_) (fun h => absurd (by decide) h)
    | refine And.intro (fun _ => ?_) (fun _ => ?_)
    | refine And.intro ?_ ?_
  all_goals (first | decide | omega | ((simp only [rem, cd, l0] at *; first | done | omega)) | (rw [rem, cd]; omega) | ((simp only [cm, l0, l1] at *; first | done | omega)) | (exfalso; (simp only [rem, cd, cm, l0, l20] at *; first | done | omega)) | (trace_state; fail))
