/-! the first of the least -/
def fq_m (f : Nat → Int) : Nat → Nat
  | 0 => 0
  | k + 1 => if f (k + 1) < f (fq_m f k) then k + 1 else fq_m f k
theorem fq_m_l (f : Nat → Int) : ∀ k : Nat, fq_m f k ≤ k := by
  intro k
  induction k with
  | zero => exact Nat.le_refl _
  | succ k ih =>
    simp only [fq_m]
    split <;> omega
/-- a step: s stands for s tries made -/
theorem fq_m_s {f : Nat → Int} {s : Int} (h : 1 ≤ s) : fq_m f ((s + 1).toNat - 1) = if f s.toNat < f (fq_m f (s.toNat - 1)) then s.toNat else fq_m f (s.toNat - 1) := by
  rw [show (s + 1).toNat - 1 = (s.toNat - 1) + 1 by omega]
  simp only [fq_m]
  rw [show s.toNat - 1 + 1 = s.toNat by omega]
theorem sx_rk {ν μ : am_N} (hS : sx ν ν) (f : ∀ a b, ¬(15 ≤ a ∧ a < 22) → ¬(30 ≤ a ∧ a ≤ 34) → ¬(a = 29 ∧ b = 0) → a ≠ 78 → μ a b = ν a b) (h15 : 0 ≤ μ 15 4 ∧ μ 15 4 ≤ 4) (h29 : 0 ≤ μ 29 0 ∧ μ 29 0 ≤ 4) (h34 : sx_3 μ 34) : sx ν μ := by
  refine ⟨fun a b ha => f a b (sx_p15 ha) (fun z => sx_p30 ha (by omega)) (fun z => sx_p30 ha (by omega)) (fun z => by rw [z] at ha; cases ha), h34, fun p hp => ?_, ⟨?_, h15, h29, ?_⟩, hS.2.2.2.2⟩
  · rw [f 43 p (by omega) (by omega) (by omega) (by omega)]; exact hS.2.2.1 p hp
  · rw [f 8 4 (by omega) (by omega) (by omega) (by omega)]; exact hS.2.2.2.1.1
  · rw [f 38 0 (by omega) (by omega) (by omega) (by omega)]; exact hS.2.2.2.1.2.2.2
/-- the first of the most -/
def fq_x (f : Nat → Int) : Nat → Nat
  | 0 => 0
  | k + 1 => if f (fq_x f k) < f (k + 1) then k + 1 else fq_x f k
/-- the order hangs on the takes of those who run -/
theorem fp_od_i2 {t u : Nat → Int} {n : Int} {p : Nat} (hn : n ≤ 4) (hp : (p : Int) < n) (h : ∀ q : Nat, (q : Int) < n → t q = u q) : fp_od t n (p : Int) = fp_od u n (p : Int) := by
  obtain ⟨i, hi, hc⟩ := am_cnt_s t (m := n.toNat) (by omega) p (by omega)
  have e : am_cnt t i n.toNat = am_cnt u i n.toNat := am_cnt_t (n := n.toNat) hi (fun j hj => h j (by omega)) _ (Nat.le_refl _)
  rw [fp_od_i hn (by omega) hc, fp_od_i hn (by omega) (e ▸ hc)]
