/-! order -/
/-- the model behind a race of its own: all but takes and places as it was -/
theorem mi_rc {ν μ : am_N} (h : mi ν) (e : ∀ a b, a = 83 ∨ a = 98 → μ a b = ν a b) (p : sx_3 μ 100) : mi μ := by
  unfold mi at h ⊢
  rw [e 83 14 (by omega), e 83 15 (by omega), e 83 16 (by omega), e 83 21 (by omega), e 83 33 (by omega), e 83 40 (by omega), e 83 42 (by omega), e 98 44 (by omega), e 98 38 (by omega), e 98 39 (by omega)]
  exact ⟨h.1, h.2.1, h.2.2.1, h.2.2.2.1, h.2.2.2.2.1, h.2.2.2.2.2.1, h.2.2.2.2.2.2.1, h.2.2.2.2.2.2.2.1, h.2.2.2.2.2.2.2.2.1, h.2.2.2.2.2.2.2.2.2.1, p⟩
/-- places as digits -/
def fp_dg (F : am_N) : Int := am_dg (fun p => fp_od (fp_tf F) (F 0 4) p) (F 0 4).toNat 0
theorem s_order {l : Launch} {ν : am_N} {Q : Option am_V → am_N → Prop} (hS : sx ν ν) (hw : fp_fw 999 (fv ν 1)) (k : ∀ μ' : am_N, sx ν μ' → Q (some (.inl (fp_dg (fv ν 1)))) μ') : am_Does l 68 [.inr (.inr 0)] ν Q := by
  refine am_Does_of (Nat.le_of_ble_eq_true rfl) (Nat.le_of_ble_eq_true rfl) (Nat.le_of_ble_eq_true rfl) ?_
  obtain ⟨hf, -, -, -, -, -, -⟩ := fw_C hw (by decide)
  have f0 := hf.1.1
  have f1 := hf.1.2
  have hb := sx_all hS
  have h15 : 0 ≤ ν 15 4 ∧ ν 15 4 ≤ 4 := by omega
  have h8 : 0 ≤ ν 8 4 ∧ ν 8 4 ≤ 4 := by omega
  have h38 : 0 ≤ ν 38 0 ∧ ν 38 0 ≤ 4 := by omega
  clear hb
  refine am_go (ct := fun _ => false) am_oX6_order 300 ?_
  conv => whnf
  repeat' first
    | (refine (?_ : am_wp _ _ _ _ _ _ _ _ _ _ _ _); conv => whnf)
    | (refine (?_ : am_sw _ _ _ _); conv => whnf)
    | refine And.intro trivial ?_
    | exact trivial
    | (refine x_asRule_29_1 hf (fun μ1 g1 n1 o1 t1 b1 => ?_); have sE : sx ν μ1 := ⟨fun a b ha => g1 a b (fun z => by rw [z] at ha; cases ha) (fun z => by rw [z] at ha; cases ha) (fun z => by rw [z.1] at ha; cases ha), b1 hS.2.1, fun p hp => by rw [g1 43 p (by decide) (by decide) (by omega)]; exact hS.2.2.1 p hp, (by unfold sx_4; rw [g1 8 4 (by decide) (by decide) (by decide), g1 15 4 (by decide) (by decide) (by decide), n1, g1 38 0 (by decide) (by decide) (by decide)]; exact ⟨h8, h15, ⟨f0, f1⟩, h38⟩), hS.2.2.2.2⟩)
    | (refine x_digits (by rw [n1]; exact f0) (by rw [n1]; exact f1) ?_)
    | (refine am_qe (k _ sE) ?_)
    | refine And.intro (fun h => absurd h (by decide)) (fun _ => ?_)
    | refine And.intro (fun _ => ?_) (fun h => absurd (by decide) h)
    | refine And.intro (fun _ => ?_) (fun _ => ?_)
    | refine And.intro ?_ ?_
  all_goals (first | decide | omega | (unfold fp_dg; rw [n1, fv_0 (by decide)]; exact am_dg_eq _ _ (fun p hp => by rw [fp_od_o f1 o1 p (by omega)]; exact fp_od_t f1 (fun i hi => fv_T hi))) | (trace_state; fail))
theorem n_order {l : Launch} {ν : am_N} {Q : Option am_V → am_N → Prop} (hm : mi ν) (hw : fp_fw 999 (mv ν)) (k : ∀ μ' : am_N, gm ms ν μ' → Q (some (.inl (fp_dg (mv ν)))) μ') : am_Does l 181 [.inr (.inr 83)] ν Q := by
  refine am_Does_of (Nat.le_of_ble_eq_true rfl) (Nat.le_of_ble_eq_true rfl) (Nat.le_of_ble_eq_true rfl) ?_
  obtain ⟨hf, -, -, -, -, -, -⟩ := fw_M hw (by decide)
  have f0 := hf.1.1
  have f1 := hf.1.2
  refine am_go (ct := fun _ => false) am_oX7_order 300 ?_
  conv => whnf
  repeat' first
    | (refine (?_ : am_wp _ _ _ _ _ _ _ _ _ _ _ _); conv => whnf)
    | (refine (?_ : am_sw _ _ _ _); conv => whnf)
    | refine And.intro trivial ?_
    | exact trivial
    | (refine x_takesTimes hf (fun μ1 g1 o1 t1 b1 => ?_); have n1 : μ1 83 14 = ν 83 14 := g1 83 14 (by decide) (by decide); have sE : gm ms ν μ1 := ⟨mi_rc hm (fun a b q => g1 a b (by omega) (by omega)) (b1 (fun p hp => mi_or hm p hp)), fun a b ha => g1 a b (fun z => by rw [z] at ha; cases ha) (fun z => by rw [z] at ha; cases ha)⟩)
    | (refine x_mdigits (by rw [n1]; exact f0) (by rw [n1]; exact f1) ?_)
    | (refine am_qe (k _ sE) ?_)
    | refine And.intro (fun h => absurd h (by decide)) (fun _ => ?_)
    | refine And.intro (fun _ => ?_) (fun h => absurd (by decide) h)
    | refine And.intro (fun _ => ?_) (fun _ => ?_)
    | refine And.intro ?_ ?_
  all_goals (first | decide | omega | (unfold fp_dg; rw [n1, mv_n]; exact am_dg_eq _ _ (fun p hp => by rw [fp_od_o f1 o1 p (by omega)]; exact fp_od_t f1 (fun i hi => mv_T hi))) | (trace_state; fail))
